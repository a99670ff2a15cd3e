section
theorem wd_use {s U : State} (h : s.vm.Alike U.vm) (o : (Cond.arrayOver (.array .int)).before #[] s = true) : (Cond.arrayOver (.array .int)).before #[] U = true := arrayOver_alikeB h o
end
section
/-! ===== BEGIN words of one list among another's, by their places ===== -/
theorem goodIn_r {big : List Cond} (ws : List Cond) (ps : List Nat) (hp : ws = ps.filterMap (fun i => big[i]?)) (h : ws.all goodWord = true) : GoodIn big ws := by
  intro w hw
  have h1 := List.all_eq_true.mp h w hw
  rw [hp] at hw
  obtain ⟨i, -, hi⟩ := List.mem_filterMap.mp hw
  have hm : w ∈ big := by first | exact List.mem_of_getElem? hi | exact List.getElem?_mem hi
  exact ⟨hm, good_of_word h1⟩
theorem goodIn_app {big a b : List Cond} (ha : GoodIn big a) (hb : GoodIn big b) : GoodIn big (a ++ b) := fun w h => (List.mem_append.mp h).elim (ha w) (hb w)
theorem goodIn_ca {big a b : List Cond} {c : Cond} (ha : GoodIn big (c :: a)) (hb : GoodIn big b) : GoodIn big (c :: (a ++ b)) := fun w h => (List.mem_cons.mp h).elim (fun e => ha w (List.mem_cons.mpr (Or.inl e))) (fun h => (List.mem_append.mp h).elim (fun h => ha w (List.mem_cons.mpr (Or.inr h))) (hb w))
theorem goodIn_sub {big ws : List Cond} (hm : ∀ w ∈ ws, w ∈ big) (h : ws.all goodWord = true) : GoodIn big ws := fun w hw => ⟨hm w hw, good_of_word (List.all_eq_true.mp h w hw)⟩
/-! ===== END ===== -/


/-! ===== BEGIN printed: names, fields, word lists, decode rows ===== -/
def RX0 : String := "CubeTower$Cube"
def TX0 : u_T := fun k => match k with
  | 0 => ("CubeTower$Cube", "kind", "I", false)
  | 1 => ("CubeTower$Cube", "sorts", "I", false)
  | _ => ("CubeTower$Cube", "colours", "[I", true)
def tyX0 : Nat → FieldType := fun k => match k with
  | 0 => .int
  | 1 => .int
  | _ => .array .int
abbrev wsX00 : List Cond := u_ws RX0 TX0 3
theorem nmX0 : ∀ a, a < 3 → ∀ b, b < 3 → a ≠ b → (TX0 a).2.1 ≠ (TX0 b).2.1 := by decide +kernel
theorem tyX0_ok : ∀ k, k < 3 → parseFieldDescriptor (TX0 k).2.2.1 = some (tyX0 k) := by decide +kernel
abbrev cX0_init : ByteArray := prog_2_method_1_code
def yX0_init : MethodName := ⟨RX0, "<init>", "()V"⟩
abbrev cX0_turnOver : ByteArray := prog_2_method_2_code
def yX0_turnOver : MethodName := ⟨RX0, "turnOver", "(I)V"⟩
abbrev cX0_copyFrom : ByteArray := prog_2_method_3_code
def yX0_copyFrom : MethodName := ⟨RX0, "copyFrom", "(LCubeTower$Cube;)V"⟩
def RX1 : String := "CubeTower$Survey"
def TX1 : u_T := fun k => match k with
  | 0 => ("CubeTower$Survey", "waysOfKind", "[LCubeTower$Ways;", true)
  | 1 => ("CubeTower$Survey", "waysOfCube", "[LCubeTower$Ways;", true)
  | 2 => ("CubeTower$Survey", "walls", "[[I", true)
  | 3 => ("CubeTower$Survey", "pairs", "[I", true)
  | 4 => ("CubeTower$Survey", "pairCount", "I", false)
  | 5 => ("CubeTower$Survey", "solutions", "I", false)
  | 6 => ("CubeTower$Survey", "least", "I", false)
  | 7 => ("CubeTower$Survey", "fewestTurns", "I", false)
  | _ => ("CubeTower$Survey", "firstTurns", "I", false)
def tyX1 : Nat → FieldType := fun k => match k with
  | 0 => .array (.object "CubeTower$Ways")
  | 1 => .array (.object "CubeTower$Ways")
  | 2 => .array (.array .int)
  | 3 => .array .int
  | 4 => .int
  | 5 => .int
  | 6 => .int
  | 7 => .int
  | _ => .int
abbrev wsX10 : List Cond := u_ws RX1 TX1 9
theorem nmX1 : ∀ a, a < 9 → ∀ b, b < 9 → a ≠ b → (TX1 a).2.1 ≠ (TX1 b).2.1 := by decide +kernel
theorem tyX1_ok : ∀ k, k < 9 → parseFieldDescriptor (TX1 k).2.2.1 = some (tyX1 k) := by decide +kernel
abbrev cX1_init : ByteArray := prog_3_method_1_code
def yX1_init : MethodName := ⟨RX1, "<init>", "()V"⟩
abbrev cX1_look : ByteArray := prog_3_method_2_code
def yX1_look : MethodName := ⟨RX1, "look", "(LCubeTower$Tower;)V"⟩
abbrev cX1_layOut : ByteArray := prog_3_method_3_code
def yX1_layOut : MethodName := ⟨RX1, "layOut", "(LCubeTower$Tower;I)V"⟩
abbrev cX1_wallsOf : ByteArray := prog_3_method_4_code
def yX1_wallsOf : MethodName := ⟨RX1, "wallsOf", "(LCubeTower$Cube;LCubeTower$Ways;I)I"⟩
abbrev cX1_tryThird : ByteArray := prog_3_method_5_code
def yX1_tryThird : MethodName := ⟨RX1, "tryThird", "(III)V"⟩
abbrev cX1_addSolution : ByteArray := prog_3_method_6_code
def yX1_addSolution : MethodName := ⟨RX1, "addSolution", "(III)V"⟩
abbrev cX1_firstTurn : ByteArray := prog_3_method_7_code
def yX1_firstTurn : MethodName := ⟨RX1, "firstTurn", "()I"⟩
abbrev cX1_allWays : ByteArray := prog_3_method_8_code
def yX1_allWays : MethodName := ⟨RX1, "allWays", "()I"⟩
abbrev cX1_sideToPaint : ByteArray := prog_3_method_9_code
def yX1_sideToPaint : MethodName := ⟨RX1, "sideToPaint", "(I)I"⟩
abbrev cX1_pairOthers : ByteArray := prog_3_method_10_code
def yX1_pairOthers : MethodName := ⟨RX1, "pairOthers", "(I)V"⟩
abbrev cX1_helpfulColours : ByteArray := prog_3_method_11_code
def yX1_helpfulColours : MethodName := ⟨RX1, "helpfulColours", "(II)I"⟩
abbrev cX1_coloursFree : ByteArray := prog_3_method_12_code
def yX1_coloursFree : MethodName := ⟨RX1, "coloursFree", "(II)I"⟩
def RX2 : String := "CubeTower$Tower"
def TX2 : u_T := fun k => match k with
  | 0 => ("CubeTower$Tower", "size", "I", false)
  | 1 => ("CubeTower$Tower", "turns", "I", false)
  | 2 => ("CubeTower$Tower", "seen", "I", false)
  | _ => ("CubeTower$Tower", "cubes", "[LCubeTower$Cube;", true)
def tyX2 : Nat → FieldType := fun k => match k with
  | 0 => .int
  | 1 => .int
  | 2 => .int
  | _ => .array (.object "CubeTower$Cube")
abbrev wsX20 : List Cond := u_ws RX2 TX2 4
theorem nmX2 : ∀ a, a < 4 → ∀ b, b < 4 → a ≠ b → (TX2 a).2.1 ≠ (TX2 b).2.1 := by decide +kernel
theorem tyX2_ok : ∀ k, k < 4 → parseFieldDescriptor (TX2 k).2.2.1 = some (tyX2 k) := by decide +kernel
abbrev cX2_init : ByteArray := prog_4_method_1_code
def yX2_init : MethodName := ⟨RX2, "<init>", "()V"⟩
abbrev cX2_has : ByteArray := prog_4_method_2_code
def yX2_has : MethodName := ⟨RX2, "has", "(I)Z"⟩
abbrev cX2_copyFrom : ByteArray := prog_4_method_3_code
def yX2_copyFrom : MethodName := ⟨RX2, "copyFrom", "(LCubeTower$Tower;)V"⟩
abbrev cX2_forgetAll : ByteArray := prog_4_method_4_code
def yX2_forgetAll : MethodName := ⟨RX2, "forgetAll", "()V"⟩
abbrev cX2_clashesOn : ByteArray := prog_4_method_5_code
def yX2_clashesOn : MethodName := ⟨RX2, "clashesOn", "(I)I"⟩
abbrev cX2_clashes : ByteArray := prog_4_method_6_code
def yX2_clashes : MethodName := ⟨RX2, "clashes", "()I"⟩
abbrev cX2_goodWalls : ByteArray := prog_4_method_7_code
def yX2_goodWalls : MethodName := ⟨RX2, "goodWalls", "()I"⟩
abbrev cX2_coloursUsed : ByteArray := prog_4_method_8_code
def yX2_coloursUsed : MethodName := ⟨RX2, "coloursUsed", "()I"⟩
def RX3 : String := "CubeTower$Ways"
def TX3 : u_T := fun k => match k with
  | 0 => ("CubeTower$Ways", "size", "I", false)
  | 1 => ("CubeTower$Ways", "sideAt", "[I", true)
  | 2 => ("CubeTower$Ways", "turnsTo", "[I", true)
  | _ => ("CubeTower$Ways", "firstTurns", "[I", true)
def tyX3 : Nat → FieldType := fun k => match k with
  | 0 => .int
  | 1 => .array .int
  | 2 => .array .int
  | _ => .array .int
abbrev wsX30 : List Cond := u_ws RX3 TX3 4
theorem nmX3 : ∀ a, a < 4 → ∀ b, b < 4 → a ≠ b → (TX3 a).2.1 ≠ (TX3 b).2.1 := by decide +kernel
theorem tyX3_ok : ∀ k, k < 4 → parseFieldDescriptor (TX3 k).2.2.1 = some (tyX3 k) := by decide +kernel
abbrev cX3_init : ByteArray := prog_5_method_1_code
def yX3_init : MethodName := ⟨RX3, "<init>", "(I)V"⟩
abbrev cX3_reach : ByteArray := prog_5_method_2_code
def yX3_reach : MethodName := ⟨RX3, "reach", "(III)V"⟩
abbrev cX3_find : ByteArray := prog_5_method_3_code
def yX3_find : MethodName := ⟨RX3, "find", "()I"⟩
abbrev cX3_sameRows : ByteArray := prog_5_method_4_code
def yX3_sameRows : MethodName := ⟨RX3, "sameRows", "(II)Z"⟩
abbrev cX3_placeOf : ByteArray := prog_5_method_5_code
def yX3_placeOf : MethodName := ⟨RX3, "placeOf", "(II)I"⟩
def RX4 : String := "CubeTower"
def TX4 : u_T := fun k => match k with
  | 0 => ("CubeTower", "page", "[I", true)
  | 1 => ("CubeTower", "letters", "I", false)
  | 2 => ("CubeTower", "towersRead", "I", false)
  | 3 => ("CubeTower", "repaints", "I", false)
  | 4 => ("CubeTower", "now", "LCubeTower$Tower;", true)
  | 5 => ("CubeTower", "kept", "LCubeTower$Tower;", true)
  | 6 => ("CubeTower", "trial", "LCubeTower$Tower;", true)
  | 7 => ("CubeTower", "survey", "LCubeTower$Survey;", true)
  | _ => ("CubeTower", "surveyed", "Z", false)
def tyX4 : Nat → FieldType := fun k => match k with
  | 0 => .array .int
  | 1 => .int
  | 2 => .int
  | 3 => .int
  | 4 => .object "CubeTower$Tower"
  | 5 => .object "CubeTower$Tower"
  | 6 => .object "CubeTower$Tower"
  | 7 => .object "CubeTower$Survey"
  | _ => .boolean
abbrev wsX40 : List Cond := u_ws RX4 TX4 9
theorem nmX4 : ∀ a, a < 9 → ∀ b, b < 9 → a ≠ b → (TX4 a).2.1 ≠ (TX4 b).2.1 := by decide +kernel
theorem tyX4_ok : ∀ k, k < 9 → parseFieldDescriptor (TX4 k).2.2.1 = some (tyX4 k) := by decide +kernel
abbrev cX4_init : ByteArray := prog_1_method_1_code
def yX4_init : MethodName := ⟨RX4, "<init>", "()V"⟩
abbrev cX4_letter : ByteArray := prog_1_method_2_code
def yX4_letter : MethodName := ⟨RX4, "letter", "(I)I"⟩
abbrev cX4_blank : ByteArray := prog_1_method_3_code
def yX4_blank : MethodName := ⟨RX4, "blank", "()I"⟩
abbrev cX4_fault : ByteArray := prog_1_method_4_code
def yX4_fault : MethodName := ⟨RX4, "fault", "()I"⟩
abbrev cX4_tower : ByteArray := prog_1_method_5_code
def yX4_tower : MethodName := ⟨RX4, "tower", "()I"⟩
abbrev cX4_fits : ByteArray := prog_1_method_6_code
def yX4_fits : MethodName := ⟨RX4, "fits", "(II)Z"⟩
abbrev cX4_readPage : ByteArray := prog_1_method_7_code
def yX4_readPage : MethodName := ⟨RX4, "readPage", "(I)V"⟩
abbrev cX4_cube : ByteArray := prog_1_method_8_code
def yX4_cube : MethodName := ⟨RX4, "cube", "(II)I"⟩
abbrev cX4_as : ByteArray := prog_1_method_9_code
def yX4_as : MethodName := ⟨RX4, "as", "(II)I"⟩
abbrev cX4_wall : ByteArray := prog_1_method_10_code
def yX4_wall : MethodName := ⟨RX4, "wall", "(II)I"⟩
abbrev cX4_nextQuestion : ByteArray := prog_1_method_11_code
def yX4_nextQuestion : MethodName := ⟨RX4, "nextQuestion", "(I)I"⟩
abbrev cX4_turn : ByteArray := prog_1_method_12_code
def yX4_turn : MethodName := ⟨RX4, "turn", "(II)I"⟩
abbrev cX4_paint : ByteArray := prog_1_method_13_code
def yX4_paint : MethodName := ⟨RX4, "paint", "(III)I"⟩
abbrev cX4_swap : ByteArray := prog_1_method_14_code
def yX4_swap : MethodName := ⟨RX4, "swap", "(II)I"⟩
abbrev cX4_be : ByteArray := prog_1_method_15_code
def yX4_be : MethodName := ⟨RX4, "be", "(II)I"⟩
abbrev cX4_canTurn : ByteArray := prog_1_method_16_code
def yX4_canTurn : MethodName := ⟨RX4, "canTurn", "(II)Z"⟩
abbrev cX4_turnRow : ByteArray := prog_1_method_17_code
def yX4_turnRow : MethodName := ⟨RX4, "turnRow", "([IIII)V"⟩
abbrev cX4_ways : ByteArray := prog_1_method_18_code
def yX4_ways : MethodName := ⟨RX4, "ways", "(I)I"⟩
abbrev cX4_turning : ByteArray := prog_1_method_19_code
def yX4_turning : MethodName := ⟨RX4, "turning", "(I)I"⟩
abbrev cX4_repaint : ByteArray := prog_1_method_20_code
def yX4_repaint : MethodName := ⟨RX4, "repaint", "()I"⟩
abbrev cX4_odds : ByteArray := prog_1_method_21_code
def yX4_odds : MethodName := ⟨RX4, "odds", "(I)I"⟩
abbrev cX4_lookAround : ByteArray := prog_1_method_22_code
def yX4_lookAround : MethodName := ⟨RX4, "lookAround", "()V"⟩
abbrev cX4_commonDivisor : ByteArray := prog_1_method_23_code
def yX4_commonDivisor : MethodName := ⟨RX4, "commonDivisor", "(II)I"⟩
abbrev cX4_see : ByteArray := prog_1_method_24_code
def yX4_see : MethodName := ⟨RX4, "see", "(IIZ)I"⟩
abbrev cX4_forget : ByteArray := prog_1_method_25_code
def yX4_forget : MethodName := ⟨RX4, "forget", "()I"⟩
abbrev cX4_runs : ByteArray := prog_1_method_26_code
def yX4_runs : MethodName := ⟨RX4, "runs", "(III)I"⟩
abbrev cX4_nextSeed : ByteArray := prog_1_method_27_code
def yX4_nextSeed : MethodName := ⟨RX4, "nextSeed", "(I)I"⟩
abbrev cX4_draw : ByteArray := prog_1_method_28_code
def yX4_draw : MethodName := ⟨RX4, "draw", "(II)I"⟩
abbrev cX4_image : ByteArray := prog_1_method_29_code
def yX4_image : MethodName := ⟨RX4, "image", "()I"⟩
abbrev cX4_restore : ByteArray := prog_1_method_30_code
def yX4_restore : MethodName := ⟨RX4, "restore", "()I"⟩
abbrev cX4_count : ByteArray := prog_1_method_31_code
def yX4_count : MethodName := ⟨RX4, "count", "(I)I"⟩
abbrev cX4_digest : ByteArray := prog_1_method_32_code
def yX4_digest : MethodName := ⟨RX4, "digest", "()J"⟩
abbrev cX4_addCube : ByteArray := prog_1_method_33_code
def yX4_addCube : MethodName := ⟨RX4, "addCube", "(JI)J"⟩
abbrev cX4_addWholeTower : ByteArray := prog_1_method_34_code
def yX4_addWholeTower : MethodName := ⟨RX4, "addWholeTower", "(J)J"⟩
def RX5 : String := "CubeTowerModel"
def TX5 : u_T := fun k => match k with
  | 0 => ("CubeTowerModel", "towers", "I", false)
  | 1 => ("CubeTowerModel", "cubes", "I", false)
  | 2 => ("CubeTowerModel", "kindOf", "[I", true)
  | 3 => ("CubeTowerModel", "lies", "[I", true)
  | 4 => ("CubeTowerModel", "turns", "I", false)
  | 5 => ("CubeTowerModel", "asks", "I", false)
  | 6 => ("CubeTowerModel", "seen", "I", false)
  | 7 => ("CubeTowerModel", "seenCube", "[I", true)
  | 8 => ("CubeTowerModel", "seenWhat", "[I", true)
  | 9 => ("CubeTowerModel", "seenCould", "[I", true)
  | 10 => ("CubeTowerModel", "pageLength", "I", false)
  | 11 => ("CubeTowerModel", "page", "[B", true)
  | 12 => ("CubeTowerModel", "isWhole", "Z", false)
  | 13 => ("CubeTowerModel", "newCubes", "I", false)
  | 14 => ("CubeTowerModel", "wayOf", "[I", true)
  | 15 => ("CubeTowerModel", "farOf", "[I", true)
  | 16 => ("CubeTowerModel", "manyOf", "[I", true)
  | 17 => ("CubeTowerModel", "colourOf", "[I", true)
  | 18 => ("CubeTowerModel", "seedNow", "J", false)
  | 19 => ("CubeTowerModel", "thought", "[I", true)
  | 20 => ("CubeTowerModel", "isKept", "Z", false)
  | 21 => ("CubeTowerModel", "keptTower", "I", false)
  | 22 => ("CubeTowerModel", "keptTurns", "I", false)
  | 23 => ("CubeTowerModel", "keptSeen", "I", false)
  | 24 => ("CubeTowerModel", "keptKind", "[I", true)
  | 25 => ("CubeTowerModel", "keptLies", "[I", true)
  | 26 => ("CubeTowerModel", "keptCube", "[I", true)
  | 27 => ("CubeTowerModel", "keptWhat", "[I", true)
  | 28 => ("CubeTowerModel", "keptCould", "[I", true)
  | _ => ("CubeTowerModel", "h", "J", false)
def tyX5 : Nat → FieldType := fun k => match k with
  | 0 => .int
  | 1 => .int
  | 2 => .array .int
  | 3 => .array .int
  | 4 => .int
  | 5 => .int
  | 6 => .int
  | 7 => .array .int
  | 8 => .array .int
  | 9 => .array .int
  | 10 => .int
  | 11 => .array .byte
  | 12 => .boolean
  | 13 => .int
  | 14 => .array .int
  | 15 => .array .int
  | 16 => .array .int
  | 17 => .array .int
  | 18 => .long
  | 19 => .array .int
  | 20 => .boolean
  | 21 => .int
  | 22 => .int
  | 23 => .int
  | 24 => .array .int
  | 25 => .array .int
  | 26 => .array .int
  | 27 => .array .int
  | 28 => .array .int
  | _ => .long
abbrev wsX50 : List Cond := u_ws RX5 TX5 30
theorem nmX5 : ∀ a, a < 30 → ∀ b, b < 30 → a ≠ b → (TX5 a).2.1 ≠ (TX5 b).2.1 := by decide +kernel
theorem tyX5_ok : ∀ k, k < 30 → parseFieldDescriptor (TX5 k).2.2.1 = some (tyX5 k) := by decide +kernel
abbrev cX5_init : ByteArray := prog_7_method_1_code
def yX5_init : MethodName := ⟨RX5, "<init>", "()V"⟩
abbrev cX5_within : ByteArray := prog_7_method_3_code
def yX5_within : MethodName := ⟨RX5, "within", "(III)Z"⟩
abbrev cX5_isIn : ByteArray := prog_7_method_4_code
def yX5_isIn : MethodName := ⟨RX5, "isIn", "(II)Z"⟩
abbrev cX5_size : ByteArray := prog_7_method_5_code
def yX5_size : MethodName := ⟨RX5, "size", "(I)I"⟩
abbrev cX5_divisor : ByteArray := prog_7_method_6_code
def yX5_divisor : MethodName := ⟨RX5, "divisor", "(II)I"⟩
abbrev cX5_letter : ByteArray := prog_7_method_7_code
def yX5_letter : MethodName := ⟨RX5, "letter", "(I)I"⟩
abbrev cX5_blank : ByteArray := prog_7_method_8_code
def yX5_blank : MethodName := ⟨RX5, "blank", "()I"⟩
abbrev cX5_kindBy : ByteArray := prog_7_method_9_code
def yX5_kindBy : MethodName := ⟨RX5, "kindBy", "(I)I"⟩
abbrev cX5_at : ByteArray := prog_7_method_10_code
def yX5_at : MethodName := ⟨RX5, "at", "(I)I"⟩
abbrev cX5_readCube : ByteArray := prog_7_method_11_code
def yX5_readCube : MethodName := ⟨RX5, "readCube", "(I)I"⟩
abbrev cX5_read : ByteArray := prog_7_method_12_code
def yX5_read : MethodName := ⟨RX5, "read", "()I"⟩
abbrev cX5_fault : ByteArray := prog_7_method_13_code
def yX5_fault : MethodName := ⟨RX5, "fault", "()I"⟩
abbrev cX5_tower : ByteArray := prog_7_method_14_code
def yX5_tower : MethodName := ⟨RX5, "tower", "()I"⟩
abbrev cX5_isCube : ByteArray := prog_7_method_15_code
def yX5_isCube : MethodName := ⟨RX5, "isCube", "(I)Z"⟩
abbrev cX5_side : ByteArray := prog_7_method_16_code
def yX5_side : MethodName := ⟨RX5, "side", "(II)I"⟩
abbrev cX5_ring : ByteArray := prog_7_method_17_code
def yX5_ring : MethodName := ⟨RX5, "ring", "(IIIII)I"⟩
abbrev cX5_quarter : ByteArray := prog_7_method_18_code
def yX5_quarter : MethodName := ⟨RX5, "quarter", "(II)I"⟩
abbrev cX5_turnsOf : ByteArray := prog_7_method_19_code
def yX5_turnsOf : MethodName := ⟨RX5, "turnsOf", "(I)I"⟩
abbrev cX5_turned : ByteArray := prog_7_method_20_code
def yX5_turned : MethodName := ⟨RX5, "turned", "(III)I"⟩
abbrev cX5_waysOf : ByteArray := prog_7_method_21_code
def yX5_waysOf : MethodName := ⟨RX5, "waysOf", "(I)I"⟩
abbrev cX5_cubeNow : ByteArray := prog_7_method_22_code
def yX5_cubeNow : MethodName := ⟨RX5, "cubeNow", "(II)I"⟩
abbrev cX5_cube : ByteArray := prog_7_method_23_code
def yX5_cube : MethodName := ⟨RX5, "cube", "(II)I"⟩
abbrev cX5_as : ByteArray := prog_7_method_24_code
def yX5_as : MethodName := ⟨RX5, "as", "(II)I"⟩
abbrev cX5_same : ByteArray := prog_7_method_25_code
def yX5_same : MethodName := ⟨RX5, "same", "(III)I"⟩
abbrev cX5_clashesOn : ByteArray := prog_7_method_26_code
def yX5_clashesOn : MethodName := ⟨RX5, "clashesOn", "(IIII)I"⟩
abbrev cX5_clashesOf : ByteArray := prog_7_method_27_code
def yX5_clashesOf : MethodName := ⟨RX5, "clashesOf", "(III)I"⟩
abbrev cX5_clashes : ByteArray := prog_7_method_28_code
def yX5_clashes : MethodName := ⟨RX5, "clashes", "()I"⟩
abbrev cX5_wallNow : ByteArray := prog_7_method_29_code
def yX5_wallNow : MethodName := ⟨RX5, "wallNow", "(II)I"⟩
abbrev cX5_wall : ByteArray := prog_7_method_30_code
def yX5_wall : MethodName := ⟨RX5, "wall", "(II)I"⟩
abbrev cX5_turn : ByteArray := prog_7_method_31_code
def yX5_turn : MethodName := ⟨RX5, "turn", "(II)I"⟩
abbrev cX5_painted : ByteArray := prog_7_method_32_code
def yX5_painted : MethodName := ⟨RX5, "painted", "(III)I"⟩
abbrev cX5_paint : ByteArray := prog_7_method_33_code
def yX5_paint : MethodName := ⟨RX5, "paint", "(III)I"⟩
abbrev cX5_swap : ByteArray := prog_7_method_34_code
def yX5_swap : MethodName := ⟨RX5, "swap", "(II)I"⟩
abbrev cX5_be : ByteArray := prog_7_method_35_code
def yX5_be : MethodName := ⟨RX5, "be", "(II)I"⟩
abbrev cX5_take : ByteArray := prog_7_method_36_code
def yX5_take : MethodName := ⟨RX5, "take", "(III)V"⟩
abbrev cX5_layWays : ByteArray := prog_7_method_37_code
def yX5_layWays : MethodName := ⟨RX5, "layWays", "(II)V"⟩
abbrev cX5_laid : ByteArray := prog_7_method_38_code
def yX5_laid : MethodName := ⟨RX5, "laid", "(II)I"⟩
abbrev cX5_layColours : ByteArray := prog_7_method_39_code
def yX5_layColours : MethodName := ⟨RX5, "layColours", "(I)V"⟩
abbrev cX5_layAll : ByteArray := prog_7_method_40_code
def yX5_layAll : MethodName := ⟨RX5, "layAll", "()V"⟩
abbrev cX5_all : ByteArray := prog_7_method_41_code
def yX5_all : MethodName := ⟨RX5, "all", "()I"⟩
abbrev cX5_first : ByteArray := prog_7_method_42_code
def yX5_first : MethodName := ⟨RX5, "first", "(I)I"⟩
abbrev cX5_second : ByteArray := prog_7_method_43_code
def yX5_second : MethodName := ⟨RX5, "second", "(I)I"⟩
abbrev cX5_third : ByteArray := prog_7_method_44_code
def yX5_third : MethodName := ⟨RX5, "third", "(I)I"⟩
abbrev cX5_clashesBy : ByteArray := prog_7_method_45_code
def yX5_clashesBy : MethodName := ⟨RX5, "clashesBy", "(I)I"⟩
abbrev cX5_solutions : ByteArray := prog_7_method_46_code
def yX5_solutions : MethodName := ⟨RX5, "solutions", "()I"⟩
abbrev cX5_leastClashes : ByteArray := prog_7_method_47_code
def yX5_leastClashes : MethodName := ⟨RX5, "leastClashes", "()I"⟩
abbrev cX5_waysNow : ByteArray := prog_7_method_48_code
def yX5_waysNow : MethodName := ⟨RX5, "waysNow", "(I)I"⟩
abbrev cX5_ways : ByteArray := prog_7_method_49_code
def yX5_ways : MethodName := ⟨RX5, "ways", "(I)I"⟩
abbrev cX5_farBy : ByteArray := prog_7_method_50_code
def yX5_farBy : MethodName := ⟨RX5, "farBy", "(I)I"⟩
abbrev cX5_fewestTurns : ByteArray := prog_7_method_51_code
def yX5_fewestTurns : MethodName := ⟨RX5, "fewestTurns", "()I"⟩
abbrev cX5_firstTurn : ByteArray := prog_7_method_52_code
def yX5_firstTurn : MethodName := ⟨RX5, "firstTurn", "(I)I"⟩
abbrev cX5_turningNow : ByteArray := prog_7_method_53_code
def yX5_turningNow : MethodName := ⟨RX5, "turningNow", "(I)I"⟩
abbrev cX5_turning : ByteArray := prog_7_method_54_code
def yX5_turning : MethodName := ⟨RX5, "turning", "(I)I"⟩
abbrev cX5_isBy : ByteArray := prog_7_method_55_code
def yX5_isBy : MethodName := ⟨RX5, "isBy", "(III)Z"⟩
abbrev cX5_repaintNow : ByteArray := prog_7_method_56_code
def yX5_repaintNow : MethodName := ⟨RX5, "repaintNow", "()I"⟩
abbrev cX5_repaint : ByteArray := prog_7_method_57_code
def yX5_repaint : MethodName := ⟨RX5, "repaint", "()I"⟩
abbrev cX5_oddsNow : ByteArray := prog_7_method_58_code
def yX5_oddsNow : MethodName := ⟨RX5, "oddsNow", "(I)I"⟩
abbrev cX5_odds : ByteArray := prog_7_method_59_code
def yX5_odds : MethodName := ⟨RX5, "odds", "(I)I"⟩
abbrev cX5_could : ByteArray := prog_7_method_60_code
def yX5_could : MethodName := ⟨RX5, "could", "(II)Z"⟩
abbrev cX5_see : ByteArray := prog_7_method_61_code
def yX5_see : MethodName := ⟨RX5, "see", "(IIZ)I"⟩
abbrev cX5_forget : ByteArray := prog_7_method_62_code
def yX5_forget : MethodName := ⟨RX5, "forget", "()I"⟩
abbrev cX5_sortsOf : ByteArray := prog_7_method_63_code
def yX5_sortsOf : MethodName := ⟨RX5, "sortsOf", "(I)I"⟩
abbrev cX5_askOf : ByteArray := prog_7_method_64_code
def yX5_askOf : MethodName := ⟨RX5, "askOf", "(I)I"⟩
abbrev cX5_draw : ByteArray := prog_7_method_65_code
def yX5_draw : MethodName := ⟨RX5, "draw", "(I)I"⟩
abbrev cX5_runsNow : ByteArray := prog_7_method_66_code
def yX5_runsNow : MethodName := ⟨RX5, "runsNow", "(III)I"⟩
abbrev cX5_runs : ByteArray := prog_7_method_67_code
def yX5_runs : MethodName := ⟨RX5, "runs", "(III)I"⟩
abbrev cX5_image : ByteArray := prog_7_method_68_code
def yX5_image : MethodName := ⟨RX5, "image", "()I"⟩
abbrev cX5_restore : ByteArray := prog_7_method_69_code
def yX5_restore : MethodName := ⟨RX5, "restore", "()I"⟩
abbrev cX5_colours : ByteArray := prog_7_method_70_code
def yX5_colours : MethodName := ⟨RX5, "colours", "()I"⟩
abbrev cX5_goodWalls : ByteArray := prog_7_method_71_code
def yX5_goodWalls : MethodName := ⟨RX5, "goodWalls", "()I"⟩
abbrev cX5_howMany : ByteArray := prog_7_method_72_code
def yX5_howMany : MethodName := ⟨RX5, "howMany", "(I)I"⟩
abbrev cX5_count : ByteArray := prog_7_method_73_code
def yX5_count : MethodName := ⟨RX5, "count", "(I)I"⟩
abbrev cX5_mix : ByteArray := prog_7_method_74_code
def yX5_mix : MethodName := ⟨RX5, "mix", "(J)V"⟩
abbrev cX5_mixTower : ByteArray := prog_7_method_75_code
def yX5_mixTower : MethodName := ⟨RX5, "mixTower", "()V"⟩
abbrev cX5_digest : ByteArray := prog_7_method_76_code
def yX5_digest : MethodName := ⟨RX5, "digest", "()J"⟩
def RJ11 : String := "java/lang/Character"
def TJ11 : u_T := fun k => match k with
  | _ => ("", "", "", false)
def tyJ11 : Nat → FieldType := fun k => match k with
  | _ => .int
abbrev wsJ110 : List Cond := u_ws RJ11 TJ11 0
theorem nmJ11 : ∀ a, a < 0 → ∀ b, b < 0 → a ≠ b → (TJ11 a).2.1 ≠ (TJ11 b).2.1 := by decide +kernel
theorem tyJ11_ok : ∀ k, k < 0 → parseFieldDescriptor (TJ11 k).2.2.1 = some (tyJ11 k) := by decide +kernel
abbrev cJ11_isValidCodePoint_9a6ad : ByteArray := prog_8_method_11_code
def yJ11_isValidCodePoint_9a6ad : MethodName := ⟨RJ11, "isValidCodePoint", "(I)Z"⟩
abbrev cJ11_highSurrogate_5068e : ByteArray := prog_8_method_28_code
def yJ11_highSurrogate_5068e : MethodName := ⟨RJ11, "highSurrogate", "(I)C"⟩
abbrev cJ11_lowSurrogate_5068e : ByteArray := prog_8_method_29_code
def yJ11_lowSurrogate_5068e : MethodName := ⟨RJ11, "lowSurrogate", "(I)C"⟩
def RJ6 : String := "java/lang/Integer"
def TJ6 : u_T := fun k => match k with
  | _ => ("", "", "", false)
def tyJ6 : Nat → FieldType := fun k => match k with
  | _ => .int
abbrev wsJ60 : List Cond := u_ws RJ6 TJ6 0
theorem nmJ6 : ∀ a, a < 0 → ∀ b, b < 0 → a ≠ b → (TJ6 a).2.1 ≠ (TJ6 b).2.1 := by decide +kernel
theorem tyJ6_ok : ∀ k, k < 0 → parseFieldDescriptor (TJ6 k).2.2.1 = some (tyJ6 k) := by decide +kernel
abbrev cJ6_numberOfTrailingZeros_0f7a4 : ByteArray := prog_9_method_48_code
def yJ6_numberOfTrailingZeros_0f7a4 : MethodName := ⟨RJ6, "numberOfTrailingZeros", "(I)I"⟩
abbrev cJ6_bitCount_0f7a4 : ByteArray := prog_9_method_49_code
def yJ6_bitCount_0f7a4 : MethodName := ⟨RJ6, "bitCount", "(I)I"⟩
def RJ9 : String := "java/lang/Math"
def TJ9 : u_T := fun k => match k with
  | _ => ("", "", "", false)
def tyJ9 : Nat → FieldType := fun k => match k with
  | _ => .int
abbrev wsJ90 : List Cond := u_ws RJ9 TJ9 0
theorem nmJ9 : ∀ a, a < 0 → ∀ b, b < 0 → a ≠ b → (TJ9 a).2.1 ≠ (TJ9 b).2.1 := by decide +kernel
theorem tyJ9_ok : ∀ k, k < 0 → parseFieldDescriptor (TJ9 k).2.2.1 = some (tyJ9 k) := by decide +kernel
abbrev cJ9_max_7cf53 : ByteArray := prog_10_method_65_code
def yJ9_max_7cf53 : MethodName := ⟨RJ9, "max", "(II)I"⟩
abbrev cJ9_min_7cf53 : ByteArray := prog_10_method_69_code
def yJ9_min_7cf53 : MethodName := ⟨RJ9, "min", "(II)I"⟩
def RJ0 : String := "java/lang/String"
def TJ0 : u_T := fun k => match k with
  | _ => ("", "", "", false)
def tyJ0 : Nat → FieldType := fun k => match k with
  | _ => .int
abbrev wsJ00 : List Cond := u_ws RJ0 TJ0 0
theorem nmJ0 : ∀ a, a < 0 → ∀ b, b < 0 → a ≠ b → (TJ0 a).2.1 ≠ (TJ0 b).2.1 := by decide +kernel
theorem tyJ0_ok : ∀ k, k < 0 → parseFieldDescriptor (TJ0 k).2.2.1 = some (tyJ0 k) := by decide +kernel
abbrev cJ0_length_8abf5 : ByteArray := prog_11_method_54_code
def yJ0_length_8abf5 : MethodName := ⟨RJ0, "length", "()I"⟩
abbrev cJ0_indexOf_0f7a4 : ByteArray := prog_11_method_79_code
def yJ0_indexOf_0f7a4 : MethodName := ⟨RJ0, "indexOf", "(I)I"⟩
abbrev cJ0_indexOf_7cf53 : ByteArray := prog_11_method_80_code
def yJ0_indexOf_7cf53 : MethodName := ⟨RJ0, "indexOf", "(II)I"⟩
abbrev cJ0_coder_7d493 : ByteArray := prog_11_method_152_code
def yJ0_coder_7d493 : MethodName := ⟨RJ0, "coder", "()B"⟩
abbrev cJ0_isLatin1_aae02 : ByteArray := prog_11_method_154_code
def yJ0_isLatin1_aae02 : MethodName := ⟨RJ0, "isLatin1", "()Z"⟩
abbrev cJ0_checkBoundsBeginEnd_23922 : ByteArray := prog_11_method_158_code
def yJ0_checkBoundsBeginEnd_23922 : MethodName := ⟨RJ0, "checkBoundsBeginEnd", "(III)V"⟩
def RJ1 : String := "java/lang/StringLatin1"
def TJ1 : u_T := fun k => match k with
  | _ => ("", "", "", false)
def tyJ1 : Nat → FieldType := fun k => match k with
  | _ => .int
abbrev wsJ10 : List Cond := u_ws RJ1 TJ1 0
theorem nmJ1 : ∀ a, a < 0 → ∀ b, b < 0 → a ≠ b → (TJ1 a).2.1 ≠ (TJ1 b).2.1 := by decide +kernel
theorem tyJ1_ok : ∀ k, k < 0 → parseFieldDescriptor (TJ1 k).2.2.1 = some (tyJ1 k) := by decide +kernel
abbrev cJ1_canEncode_9a6ad : ByteArray := prog_12_method_4_code
def yJ1_canEncode_9a6ad : MethodName := ⟨RJ1, "canEncode", "(I)Z"⟩
abbrev cJ1_indexOf_4cfef : ByteArray := prog_12_method_22_code
def yJ1_indexOf_4cfef : MethodName := ⟨RJ1, "indexOf", "([BIII)I"⟩
abbrev cJ1_indexOfChar_4cfef : ByteArray := prog_12_method_23_code
def yJ1_indexOfChar_4cfef : MethodName := ⟨RJ1, "indexOfChar", "([BIII)I"⟩
def RJ2 : String := "java/lang/StringUTF16"
def TJ2 : u_T := fun k => match k with
  | _ => ("", "", "", false)
def tyJ2 : Nat → FieldType := fun k => match k with
  | _ => .int
abbrev wsJ20 : List Cond := u_ws RJ2 TJ2 0
theorem nmJ2 : ∀ a, a < 0 → ∀ b, b < 0 → a ≠ b → (TJ2 a).2.1 ≠ (TJ2 b).2.1 := by decide +kernel
theorem tyJ2_ok : ∀ k, k < 0 → parseFieldDescriptor (TJ2 k).2.2.1 = some (tyJ2 k) := by decide +kernel
abbrev cJ2_getChar_3b067 : ByteArray := prog_13_method_5_code
def yJ2_getChar_3b067 : MethodName := ⟨RJ2, "getChar", "([BI)C"⟩
abbrev cJ2_length_9d52b : ByteArray := prog_13_method_6_code
def yJ2_length_9d52b : MethodName := ⟨RJ2, "length", "([B)I"⟩
abbrev cJ2_indexOf_4cfef : ByteArray := prog_13_method_40_code
def yJ2_indexOf_4cfef : MethodName := ⟨RJ2, "indexOf", "([BIII)I"⟩
abbrev cJ2_indexOfChar_4cfef : ByteArray := prog_13_method_47_code
def yJ2_indexOfChar_4cfef : MethodName := ⟨RJ2, "indexOfChar", "([BIII)I"⟩
abbrev cJ2_indexOfCharUnsafe_4cfef : ByteArray := prog_13_method_48_code
def yJ2_indexOfCharUnsafe_4cfef : MethodName := ⟨RJ2, "indexOfCharUnsafe", "([BIII)I"⟩
abbrev cJ2_indexOfSupplementary_4cfef : ByteArray := prog_13_method_49_code
def yJ2_indexOfSupplementary_4cfef : MethodName := ⟨RJ2, "indexOfSupplementary", "([BIII)I"⟩
abbrev cJ2_checkBoundsBeginEnd_d044e : ByteArray := prog_13_method_93_code
def yJ2_checkBoundsBeginEnd_d044e : MethodName := ⟨RJ2, "checkBoundsBeginEnd", "(II[B)V"⟩
def RJ10 : String := "java/lang/System"
def TJ10 : u_T := fun k => match k with
  | _ => ("", "", "", false)
def tyJ10 : Nat → FieldType := fun k => match k with
  | _ => .int
abbrev wsJ100 : List Cond := u_ws RJ10 TJ10 0
theorem nmJ10 : ∀ a, a < 0 → ∀ b, b < 0 → a ≠ b → (TJ10 a).2.1 ≠ (TJ10 b).2.1 := by decide +kernel
theorem tyJ10_ok : ∀ k, k < 0 → parseFieldDescriptor (TJ10 k).2.2.1 = some (tyJ10 k) := by decide +kernel
def RJ3 : String := "jdk/internal/util/Preconditions"
def TJ3 : u_T := fun k => match k with
  | _ => ("", "", "", false)
def tyJ3 : Nat → FieldType := fun k => match k with
  | _ => .int
abbrev wsJ30 : List Cond := u_ws RJ3 TJ3 0
theorem nmJ3 : ∀ a, a < 0 → ∀ b, b < 0 → a ≠ b → (TJ3 a).2.1 ≠ (TJ3 b).2.1 := by decide +kernel
theorem tyJ3_ok : ∀ k, k < 0 → parseFieldDescriptor (TJ3 k).2.2.1 = some (tyJ3 k) := by decide +kernel
abbrev cJ3_checkFromToIndex_8c36e : ByteArray := prog_15_method_12_code
def yJ3_checkFromToIndex_8c36e : MethodName := ⟨RJ3, "checkFromToIndex", "(IIILjava/util/function/BiFunction;)I"⟩
def RL : String := "CubeTowerLaw"
abbrev cL_law : ByteArray := code
def yL_law : MethodName := ⟨RL, "law", "([I)Z"⟩
def wsX0_init : List Cond := .code yX0_init cX0_init 1 none :: ([.methodLink RX0 3 objectInit, .instanceMethod objectInit, .code objectInit ⟨#[0xb1]⟩ 1 none, .fieldLink RX0 9 "CubeTower$Cube" "sorts" "I", .arrayClass .int, .fieldLink RX0 15 "CubeTower$Cube" "colours" "[I"] ++ wsX00)
def wsX4_turnRow : List Cond := .code yX4_turnRow cX4_turnRow 10 none :: ([.fieldLink RX4 134 "CubeTower" "RINGS" "[I"])
def wsX0_turnOver : List Cond := .code yX0_turnOver cX0_turnOver 2 none :: ([.fieldLink RX0 15 "CubeTower$Cube" "colours" "[I", .fieldLink RX0 19 "CubeTower$Cube" "kind" "I", .static yX4_turnRow, .initialized RX4, .code yX4_turnRow cX4_turnRow 10 none, .fieldLink RX4 134 "CubeTower" "RINGS" "[I"] ++ wsX00)
def wsX0_copyFrom : List Cond := .code yX0_copyFrom cX0_copyFrom 2 none :: ([.fieldLink RX0 19 "CubeTower$Cube" "kind" "I", .fieldLink RX0 9 "CubeTower$Cube" "sorts" "I", .fieldLink RX0 15 "CubeTower$Cube" "colours" "[I", .methodLink RX0 26 arraycopyName, .native arraycopyName, .static arraycopyName, .initialized "java/lang/System"] ++ wsX00)
def wsX4_canTurn : List Cond := .code yX4_canTurn cX4_canTurn 2 (some .boolean) :: ([.fieldLink RX4 102 "CubeTower" "TURNS_OF_KIND" "[I"])
def wsX3_sameRows : List Cond := .code yX3_sameRows cX3_sameRows 4 (some .boolean) :: ([.fieldLink RX3 15 "CubeTower$Ways" "sideAt" "[I"] ++ wsX30)
def wsX3_find : List Cond := .code yX3_find cX3_find 2 (some .int) :: ([.fieldLink RX3 9 "CubeTower$Ways" "size" "I", .methodLink RX3 47 yX3_sameRows, .instanceMethod yX3_sameRows, .selects RX3 yX3_sameRows yX3_sameRows, .initialized RX3, .code yX3_sameRows cX3_sameRows 4 (some .boolean), .fieldLink RX3 15 "CubeTower$Ways" "sideAt" "[I"] ++ wsX30)
def wsX3_reach : List Cond := .code yX3_reach cX3_reach 5 none :: ([.fieldLink RX3 15 "CubeTower$Ways" "sideAt" "[I", .fieldLink RX3 9 "CubeTower$Ways" "size" "I", .methodLink RX3 33 arraycopyName, .native arraycopyName, .static arraycopyName, .initialized "java/lang/System", .fieldLink RX3 19 "CubeTower$Ways" "turnsTo" "[I", .fieldLink RX3 22 "CubeTower$Ways" "firstTurns" "[I", .static yX4_turnRow, .initialized RX4, .code yX4_turnRow cX4_turnRow 10 none, .fieldLink RX4 134 "CubeTower" "RINGS" "[I", .methodLink RX3 43 yX3_find, .instanceMethod yX3_find, .selects RX3 yX3_find yX3_find, .initialized RX3, .code yX3_find cX3_find 2 (some .int), .methodLink RX3 47 yX3_sameRows, .instanceMethod yX3_sameRows, .selects RX3 yX3_sameRows yX3_sameRows, .code yX3_sameRows cX3_sameRows 4 (some .boolean)] ++ wsX30)
def wsX3_init_r1 : List Cond := [Cond.methodLink RX3 3 objectInit, Cond.instanceMethod objectInit, Cond.code objectInit ⟨#[0xb1]⟩ 1 none, Cond.fieldLink RX3 9 "CubeTower$Ways" "size" "I", Cond.arrayClass .int, Cond.fieldLink RX3 15 "CubeTower$Ways" "sideAt" "[I", Cond.fieldLink RX3 19 "CubeTower$Ways" "turnsTo" "[I", Cond.fieldLink RX3 22 "CubeTower$Ways" "firstTurns" "[I", Cond.static yX4_canTurn, Cond.initialized RX4, Cond.code yX4_canTurn cX4_canTurn 2 (some .boolean), Cond.fieldLink RX4 102 "CubeTower" "TURNS_OF_KIND" "[I", Cond.methodLink RX3 29 yX3_reach, Cond.instanceMethod yX3_reach, Cond.selects RX3 yX3_reach yX3_reach, Cond.initialized RX3, Cond.code yX3_reach cX3_reach 5 none, Cond.methodLink RX3 33 arraycopyName, Cond.native arraycopyName, Cond.static arraycopyName, Cond.initialized "java/lang/System", Cond.static yX4_turnRow, Cond.code yX4_turnRow cX4_turnRow 10 none, Cond.fieldLink RX4 134 "CubeTower" "RINGS" "[I"]
def wsX3_init_r2 : List Cond := [Cond.methodLink RX3 43 yX3_find, Cond.instanceMethod yX3_find, Cond.selects RX3 yX3_find yX3_find, Cond.code yX3_find cX3_find 2 (some .int), Cond.methodLink RX3 47 yX3_sameRows, Cond.instanceMethod yX3_sameRows, Cond.selects RX3 yX3_sameRows yX3_sameRows, Cond.code yX3_sameRows cX3_sameRows 4 (some .boolean)]
def wsX3_init : List Cond := .code yX3_init cX3_init 4 none :: ((wsX3_init_r1 ++ wsX3_init_r2) ++ wsX30)
def wsX1_init_r1 : List Cond := [Cond.methodLink RX1 3 objectInit, Cond.instanceMethod objectInit, Cond.code objectInit ⟨#[0xb1]⟩ 1 none, Cond.classLink RX1 9 RX3, Cond.instantiable RX3 4, Cond.initialized RX3, Cond.fieldLink RX1 14 "CubeTower$Survey" "waysOfKind" "[LCubeTower$Ways;", Cond.fieldLink RX1 20 "CubeTower$Survey" "waysOfCube" "[LCubeTower$Ways;", Cond.classLink RX1 23 "[[I", Cond.arrayClass .int, Cond.fieldLink RX1 25 "CubeTower$Survey" "walls" "[[I", Cond.fieldLink RX1 28 "CubeTower$Survey" "pairs" "[I", Cond.methodLink RX1 11 yX3_init, Cond.instanceMethod yX3_init, Cond.code yX3_init cX3_init 4 none, Cond.methodLink RX3 3 objectInit, Cond.fieldLink RX3 9 "CubeTower$Ways" "size" "I", Cond.fieldLink RX3 15 "CubeTower$Ways" "sideAt" "[I", Cond.fieldLink RX3 19 "CubeTower$Ways" "turnsTo" "[I", Cond.fieldLink RX3 22 "CubeTower$Ways" "firstTurns" "[I", Cond.static yX4_canTurn, Cond.initialized RX4, Cond.code yX4_canTurn cX4_canTurn 2 (some .boolean), Cond.fieldLink RX4 102 "CubeTower" "TURNS_OF_KIND" "[I"]
def wsX1_init_r2 : List Cond := [Cond.methodLink RX3 29 yX3_reach, Cond.instanceMethod yX3_reach, Cond.selects RX3 yX3_reach yX3_reach, Cond.code yX3_reach cX3_reach 5 none, Cond.methodLink RX3 33 arraycopyName, Cond.native arraycopyName, Cond.static arraycopyName, Cond.initialized "java/lang/System", Cond.static yX4_turnRow, Cond.code yX4_turnRow cX4_turnRow 10 none, Cond.fieldLink RX4 134 "CubeTower" "RINGS" "[I", Cond.methodLink RX3 43 yX3_find, Cond.instanceMethod yX3_find, Cond.selects RX3 yX3_find yX3_find, Cond.code yX3_find cX3_find 2 (some .int), Cond.methodLink RX3 47 yX3_sameRows, Cond.instanceMethod yX3_sameRows, Cond.selects RX3 yX3_sameRows yX3_sameRows, Cond.code yX3_sameRows cX3_sameRows 4 (some .boolean)]
def wsX1_init : List Cond := .code yX1_init cX1_init 1 none :: ((wsX1_init_r1 ++ wsX1_init_r2) ++ wsX30 ++ wsX10)
def wsX2_has : List Cond := .code yX2_has cX2_has 2 (some .boolean) :: ([.fieldLink RX2 18 "CubeTower$Tower" "size" "I"] ++ wsX20)
def wsX1_wallsOf : List Cond := .code yX1_wallsOf cX1_wallsOf 6 (some .int) :: ([.fieldLink RX1 82 "CubeTower$Ways" "sideAt" "[I", .fieldLink RX1 85 "CubeTower$Cube" "colours" "[I"] ++ wsX30 ++ wsX00)
def wsX1_layOut : List Cond := .code yX1_layOut cX1_layOut 7 none :: ([.fieldLink RX1 69 "CubeTower$Tower" "cubes" "[LCubeTower$Cube;", .fieldLink RX1 14 "CubeTower$Survey" "waysOfKind" "[LCubeTower$Ways;", .fieldLink RX1 73 "CubeTower$Cube" "kind" "I", .fieldLink RX1 20 "CubeTower$Survey" "waysOfCube" "[LCubeTower$Ways;", .fieldLink RX1 52 "CubeTower$Ways" "size" "I", .fieldLink RX1 25 "CubeTower$Survey" "walls" "[[I", .methodLink RX1 63 yX2_has, .instanceMethod yX2_has, .selects RX2 yX2_has yX2_has, .initialized RX2, .code yX2_has cX2_has 2 (some .boolean), .fieldLink RX2 18 "CubeTower$Tower" "size" "I", .methodLink RX1 78 yX1_wallsOf, .static yX1_wallsOf, .initialized RX1, .code yX1_wallsOf cX1_wallsOf 6 (some .int), .fieldLink RX1 82 "CubeTower$Ways" "sideAt" "[I", .fieldLink RX1 85 "CubeTower$Cube" "colours" "[I"] ++ wsX20 ++ wsX10 ++ wsX00 ++ wsX30)
def wsJ6_bitCount_0f7a4 : List Cond := .code yJ6_bitCount_0f7a4 cJ6_bitCount_0f7a4 1 (some .int) :: ([.constant RJ6 265 (1431655765), .constant RJ6 266 (858993459), .constant RJ6 267 (252645135)])
def wsX1_addSolution : List Cond := .code yX1_addSolution cX1_addSolution 5 none :: ([.fieldLink RX1 20 "CubeTower$Survey" "waysOfCube" "[LCubeTower$Ways;", .fieldLink RX1 97 "CubeTower$Ways" "turnsTo" "[I", .fieldLink RX1 36 "CubeTower$Survey" "solutions" "I", .fieldLink RX1 40 "CubeTower$Survey" "fewestTurns" "I", .fieldLink RX1 43 "CubeTower$Survey" "firstTurns" "I", .fieldLink RX1 100 "CubeTower$Ways" "firstTurns" "[I"] ++ wsX10 ++ wsX30)
def wsX1_tryThird_r1 : List Cond := [Cond.fieldLink RX1 25 "CubeTower$Survey" "walls" "[[I", Cond.fieldLink RX1 20 "CubeTower$Survey" "waysOfCube" "[LCubeTower$Ways;", Cond.fieldLink RX1 52 "CubeTower$Ways" "size" "I", Cond.fieldLink RX1 49 "CubeTower$Survey" "least" "I", Cond.methodLink RX1 88 Lib.Math.min.name, Cond.static Lib.Math.min.name, Cond.initialized "java/lang/Math", Cond.code Lib.Math.min.name Lib.Math.min.code 2 (some .int), Cond.methodLink RX1 55 yJ6_bitCount_0f7a4, Cond.static yJ6_bitCount_0f7a4, Cond.initialized RJ6, Cond.code yJ6_bitCount_0f7a4 cJ6_bitCount_0f7a4 1 (some .int), Cond.constant RJ6 265 (1431655765), Cond.constant RJ6 266 (858993459), Cond.constant RJ6 267 (252645135), Cond.methodLink RX1 94 yX1_addSolution, Cond.instanceMethod yX1_addSolution, Cond.selects RX1 yX1_addSolution yX1_addSolution, Cond.initialized RX1, Cond.code yX1_addSolution cX1_addSolution 5 none, Cond.fieldLink RX1 97 "CubeTower$Ways" "turnsTo" "[I", Cond.fieldLink RX1 36 "CubeTower$Survey" "solutions" "I", Cond.fieldLink RX1 40 "CubeTower$Survey" "fewestTurns" "I", Cond.fieldLink RX1 43 "CubeTower$Survey" "firstTurns" "I"]
def wsX1_tryThird_r2 : List Cond := [Cond.fieldLink RX1 100 "CubeTower$Ways" "firstTurns" "[I"]
def wsX1_tryThird : List Cond := .code yX1_tryThird cX1_tryThird 9 none :: ((wsX1_tryThird_r1 ++ wsX1_tryThird_r2) ++ wsX10 ++ wsX30)
def wsX1_look_r1 : List Cond := [Cond.fieldLink RX1 36 "CubeTower$Survey" "solutions" "I", Cond.fieldLink RX1 40 "CubeTower$Survey" "fewestTurns" "I", Cond.fieldLink RX1 43 "CubeTower$Survey" "firstTurns" "I", Cond.constant RX1 48 (2147483647), Cond.fieldLink RX1 49 "CubeTower$Survey" "least" "I", Cond.fieldLink RX1 20 "CubeTower$Survey" "waysOfCube" "[LCubeTower$Ways;", Cond.fieldLink RX1 52 "CubeTower$Ways" "size" "I", Cond.fieldLink RX1 25 "CubeTower$Survey" "walls" "[[I", Cond.methodLink RX1 32 yX1_layOut, Cond.instanceMethod yX1_layOut, Cond.selects RX1 yX1_layOut yX1_layOut, Cond.initialized RX1, Cond.code yX1_layOut cX1_layOut 7 none, Cond.fieldLink RX1 69 "CubeTower$Tower" "cubes" "[LCubeTower$Cube;", Cond.fieldLink RX1 14 "CubeTower$Survey" "waysOfKind" "[LCubeTower$Ways;", Cond.fieldLink RX1 73 "CubeTower$Cube" "kind" "I", Cond.methodLink RX1 63 yX2_has, Cond.instanceMethod yX2_has, Cond.selects RX2 yX2_has yX2_has, Cond.initialized RX2, Cond.code yX2_has cX2_has 2 (some .boolean), Cond.fieldLink RX2 18 "CubeTower$Tower" "size" "I", Cond.methodLink RX1 78 yX1_wallsOf, Cond.static yX1_wallsOf]
def wsX1_look_r2 : List Cond := [Cond.code yX1_wallsOf cX1_wallsOf 6 (some .int), Cond.fieldLink RX1 82 "CubeTower$Ways" "sideAt" "[I", Cond.fieldLink RX1 85 "CubeTower$Cube" "colours" "[I", Cond.methodLink RX1 55 yJ6_bitCount_0f7a4, Cond.static yJ6_bitCount_0f7a4, Cond.initialized RJ6, Cond.code yJ6_bitCount_0f7a4 cJ6_bitCount_0f7a4 1 (some .int), Cond.constant RJ6 265 (1431655765), Cond.constant RJ6 266 (858993459), Cond.constant RJ6 267 (252645135), Cond.methodLink RX1 59 yX1_tryThird, Cond.instanceMethod yX1_tryThird, Cond.selects RX1 yX1_tryThird yX1_tryThird, Cond.code yX1_tryThird cX1_tryThird 9 none, Cond.methodLink RX1 88 Lib.Math.min.name, Cond.static Lib.Math.min.name, Cond.initialized "java/lang/Math", Cond.code Lib.Math.min.name Lib.Math.min.code 2 (some .int), Cond.methodLink RX1 94 yX1_addSolution, Cond.instanceMethod yX1_addSolution, Cond.selects RX1 yX1_addSolution yX1_addSolution, Cond.code yX1_addSolution cX1_addSolution 5 none, Cond.fieldLink RX1 97 "CubeTower$Ways" "turnsTo" "[I", Cond.fieldLink RX1 100 "CubeTower$Ways" "firstTurns" "[I"]
def wsX1_look : List Cond := .code yX1_look cX1_look 5 none :: ((wsX1_look_r1 ++ wsX1_look_r2) ++ wsX10 ++ wsX30 ++ wsX20 ++ wsX00)
def wsJ6_numberOfTrailingZeros_0f7a4 : List Cond := .code yJ6_numberOfTrailingZeros_0f7a4 cJ6_numberOfTrailingZeros_0f7a4 2 (some .int) :: ([.constant RJ6 264 (65536)])
def wsX1_firstTurn : List Cond := .code yX1_firstTurn cX1_firstTurn 2 (some .int) :: ([.fieldLink RX1 43 "CubeTower$Survey" "firstTurns" "I", .methodLink RX1 102 yJ6_numberOfTrailingZeros_0f7a4, .static yJ6_numberOfTrailingZeros_0f7a4, .initialized RJ6, .code yJ6_numberOfTrailingZeros_0f7a4 cJ6_numberOfTrailingZeros_0f7a4 2 (some .int), .constant RJ6 264 (65536)] ++ wsX10)
def wsX1_allWays : List Cond := .code yX1_allWays cX1_allWays 1 (some .int) :: ([.fieldLink RX1 20 "CubeTower$Survey" "waysOfCube" "[LCubeTower$Ways;", .fieldLink RX1 52 "CubeTower$Ways" "size" "I"] ++ wsX10 ++ wsX30)
def wsX1_pairOthers : List Cond := .code yX1_pairOthers cX1_pairOthers 8 none :: ([.fieldLink RX1 111 "CubeTower$Survey" "pairCount" "I", .fieldLink RX1 20 "CubeTower$Survey" "waysOfCube" "[LCubeTower$Ways;", .fieldLink RX1 52 "CubeTower$Ways" "size" "I", .fieldLink RX1 25 "CubeTower$Survey" "walls" "[[I", .fieldLink RX1 28 "CubeTower$Survey" "pairs" "[I"] ++ wsX10 ++ wsX30)
def wsX3_placeOf : List Cond := .code yX3_placeOf cX3_placeOf 4 (some .int) :: ([.fieldLink RX3 15 "CubeTower$Ways" "sideAt" "[I"] ++ wsX30)
def wsX1_coloursFree : List Cond := .code yX1_coloursFree cX1_coloursFree 6 (some .int) :: ([.fieldLink RX1 111 "CubeTower$Survey" "pairCount" "I", .fieldLink RX1 28 "CubeTower$Survey" "pairs" "[I"] ++ wsX10)
def wsX1_helpfulColours : List Cond := .code yX1_helpfulColours cX1_helpfulColours 6 (some .int) :: ([.fieldLink RX1 20 "CubeTower$Survey" "waysOfCube" "[LCubeTower$Ways;", .fieldLink RX1 52 "CubeTower$Ways" "size" "I", .fieldLink RX1 25 "CubeTower$Survey" "walls" "[[I", .methodLink RX1 114 yX3_placeOf, .instanceMethod yX3_placeOf, .selects RX3 yX3_placeOf yX3_placeOf, .initialized RX3, .code yX3_placeOf cX3_placeOf 4 (some .int), .fieldLink RX3 15 "CubeTower$Ways" "sideAt" "[I", .methodLink RX1 117 yX1_coloursFree, .instanceMethod yX1_coloursFree, .selects RX1 yX1_coloursFree yX1_coloursFree, .initialized RX1, .code yX1_coloursFree cX1_coloursFree 6 (some .int), .fieldLink RX1 111 "CubeTower$Survey" "pairCount" "I", .fieldLink RX1 28 "CubeTower$Survey" "pairs" "[I"] ++ wsX10 ++ wsX30)
def wsX1_sideToPaint_r1 : List Cond := [Cond.methodLink RX1 105 yX1_pairOthers, Cond.instanceMethod yX1_pairOthers, Cond.selects RX1 yX1_pairOthers yX1_pairOthers, Cond.initialized RX1, Cond.code yX1_pairOthers cX1_pairOthers 8 none, Cond.fieldLink RX1 111 "CubeTower$Survey" "pairCount" "I", Cond.fieldLink RX1 20 "CubeTower$Survey" "waysOfCube" "[LCubeTower$Ways;", Cond.fieldLink RX1 52 "CubeTower$Ways" "size" "I", Cond.fieldLink RX1 25 "CubeTower$Survey" "walls" "[[I", Cond.fieldLink RX1 28 "CubeTower$Survey" "pairs" "[I", Cond.methodLink RX1 108 yX1_helpfulColours, Cond.instanceMethod yX1_helpfulColours, Cond.selects RX1 yX1_helpfulColours yX1_helpfulColours, Cond.code yX1_helpfulColours cX1_helpfulColours 6 (some .int), Cond.methodLink RX1 114 yX3_placeOf, Cond.instanceMethod yX3_placeOf, Cond.selects RX3 yX3_placeOf yX3_placeOf, Cond.initialized RX3, Cond.code yX3_placeOf cX3_placeOf 4 (some .int), Cond.fieldLink RX3 15 "CubeTower$Ways" "sideAt" "[I", Cond.methodLink RX1 117 yX1_coloursFree, Cond.instanceMethod yX1_coloursFree, Cond.selects RX1 yX1_coloursFree yX1_coloursFree, Cond.code yX1_coloursFree cX1_coloursFree 6 (some .int)]
def wsX1_sideToPaint_r2 : List Cond := [Cond.methodLink RX1 102 yJ6_numberOfTrailingZeros_0f7a4, Cond.static yJ6_numberOfTrailingZeros_0f7a4, Cond.initialized RJ6, Cond.code yJ6_numberOfTrailingZeros_0f7a4 cJ6_numberOfTrailingZeros_0f7a4 2 (some .int), Cond.constant RJ6 264 (65536)]
def wsX1_sideToPaint : List Cond := .code yX1_sideToPaint cX1_sideToPaint 5 (some .int) :: ((wsX1_sideToPaint_r1 ++ wsX1_sideToPaint_r2) ++ wsX10 ++ wsX30)
def wsX2_init : List Cond := .code yX2_init cX2_init 1 none :: ([.methodLink RX2 3 objectInit, .instanceMethod objectInit, .code objectInit ⟨#[0xb1]⟩ 1 none, .classLink RX2 9 RX0, .instantiable RX0 3, .initialized RX0, .fieldLink RX2 12 "CubeTower$Tower" "cubes" "[LCubeTower$Cube;", .instanceMethod yX0_init, .code yX0_init cX0_init 1 none, .methodLink RX0 3 objectInit, .fieldLink RX0 9 "CubeTower$Cube" "sorts" "I", .arrayClass .int, .fieldLink RX0 15 "CubeTower$Cube" "colours" "[I"] ++ wsX00 ++ wsX20)
def wsX2_copyFrom : List Cond := .code yX2_copyFrom cX2_copyFrom 3 none :: ([.fieldLink RX2 18 "CubeTower$Tower" "size" "I", .fieldLink RX2 22 "CubeTower$Tower" "turns" "I", .fieldLink RX2 25 "CubeTower$Tower" "seen" "I", .fieldLink RX2 12 "CubeTower$Tower" "cubes" "[LCubeTower$Cube;", .methodLink RX2 28 yX0_copyFrom, .instanceMethod yX0_copyFrom, .selects RX0 yX0_copyFrom yX0_copyFrom, .initialized RX0, .code yX0_copyFrom cX0_copyFrom 2 none, .fieldLink RX0 19 "CubeTower$Cube" "kind" "I", .fieldLink RX0 9 "CubeTower$Cube" "sorts" "I", .fieldLink RX0 15 "CubeTower$Cube" "colours" "[I", .methodLink RX0 26 arraycopyName, .native arraycopyName, .static arraycopyName, .initialized "java/lang/System"] ++ wsX20 ++ wsX00)
def wsX2_forgetAll : List Cond := .code yX2_forgetAll cX2_forgetAll 2 none :: ([.fieldLink RX2 25 "CubeTower$Tower" "seen" "I", .fieldLink RX2 12 "CubeTower$Tower" "cubes" "[LCubeTower$Cube;", .fieldLink RX2 32 "CubeTower$Cube" "sorts" "I"] ++ wsX20 ++ wsX00)
def wsX2_clashesOn : List Cond := .code yX2_clashesOn cX2_clashesOn 6 (some .int) :: ([.fieldLink RX2 18 "CubeTower$Tower" "size" "I", .fieldLink RX2 12 "CubeTower$Tower" "cubes" "[LCubeTower$Cube;", .fieldLink RX2 35 "CubeTower$Cube" "colours" "[I"] ++ wsX20 ++ wsX00)
def wsX2_clashes : List Cond := .code yX2_clashes cX2_clashes 3 (some .int) :: ([.methodLink RX2 39 yX2_clashesOn, .instanceMethod yX2_clashesOn, .selects RX2 yX2_clashesOn yX2_clashesOn, .initialized RX2, .code yX2_clashesOn cX2_clashesOn 6 (some .int), .fieldLink RX2 18 "CubeTower$Tower" "size" "I", .fieldLink RX2 12 "CubeTower$Tower" "cubes" "[LCubeTower$Cube;", .fieldLink RX2 35 "CubeTower$Cube" "colours" "[I"] ++ wsX20 ++ wsX00)
def wsX2_goodWalls : List Cond := .code yX2_goodWalls cX2_goodWalls 3 (some .int) :: ([.fieldLink RX2 18 "CubeTower$Tower" "size" "I", .methodLink RX2 39 yX2_clashesOn, .instanceMethod yX2_clashesOn, .selects RX2 yX2_clashesOn yX2_clashesOn, .initialized RX2, .code yX2_clashesOn cX2_clashesOn 6 (some .int), .fieldLink RX2 12 "CubeTower$Tower" "cubes" "[LCubeTower$Cube;", .fieldLink RX2 35 "CubeTower$Cube" "colours" "[I"] ++ wsX20 ++ wsX00)
def wsX2_coloursUsed : List Cond := .code yX2_coloursUsed cX2_coloursUsed 4 (some .int) :: ([.fieldLink RX2 18 "CubeTower$Tower" "size" "I", .fieldLink RX2 12 "CubeTower$Tower" "cubes" "[LCubeTower$Cube;", .fieldLink RX2 35 "CubeTower$Cube" "colours" "[I", .methodLink RX2 43 yJ6_bitCount_0f7a4, .static yJ6_bitCount_0f7a4, .initialized RJ6, .code yJ6_bitCount_0f7a4 cJ6_bitCount_0f7a4 1 (some .int), .constant RJ6 265 (1431655765), .constant RJ6 266 (858993459), .constant RJ6 267 (252645135)] ++ wsX20 ++ wsX00)
def wsX4_init_r1 : List Cond := [Cond.methodLink RX4 3 objectInit, Cond.instanceMethod objectInit, Cond.code objectInit ⟨#[0xb1]⟩ 1 none, Cond.arrayClass .int, Cond.fieldLink RX4 9 "CubeTower" "page" "[I", Cond.classLink RX4 13 RX2, Cond.instantiable RX2 4, Cond.initialized RX2, Cond.fieldLink RX4 16 "CubeTower" "now" "LCubeTower$Tower;", Cond.fieldLink RX4 20 "CubeTower" "kept" "LCubeTower$Tower;", Cond.fieldLink RX4 23 "CubeTower" "trial" "LCubeTower$Tower;", Cond.classLink RX4 26 RX1, Cond.instantiable RX1 9, Cond.initialized RX1, Cond.fieldLink RX4 29 "CubeTower" "survey" "LCubeTower$Survey;", Cond.instanceMethod yX2_init, Cond.code yX2_init cX2_init 1 none, Cond.methodLink RX2 3 objectInit, Cond.classLink RX2 9 RX0, Cond.instantiable RX0 3, Cond.initialized RX0, Cond.fieldLink RX2 12 "CubeTower$Tower" "cubes" "[LCubeTower$Cube;", Cond.instanceMethod yX0_init, Cond.code yX0_init cX0_init 1 none]
def wsX4_init_r2 : List Cond := [Cond.methodLink RX0 3 objectInit, Cond.fieldLink RX0 9 "CubeTower$Cube" "sorts" "I", Cond.fieldLink RX0 15 "CubeTower$Cube" "colours" "[I", Cond.instanceMethod yX1_init, Cond.code yX1_init cX1_init 1 none, Cond.methodLink RX1 3 objectInit, Cond.classLink RX1 9 RX3, Cond.instantiable RX3 4, Cond.initialized RX3, Cond.fieldLink RX1 14 "CubeTower$Survey" "waysOfKind" "[LCubeTower$Ways;", Cond.fieldLink RX1 20 "CubeTower$Survey" "waysOfCube" "[LCubeTower$Ways;", Cond.classLink RX1 23 "[[I", Cond.fieldLink RX1 25 "CubeTower$Survey" "walls" "[[I", Cond.fieldLink RX1 28 "CubeTower$Survey" "pairs" "[I", Cond.methodLink RX1 11 yX3_init, Cond.instanceMethod yX3_init, Cond.code yX3_init cX3_init 4 none, Cond.methodLink RX3 3 objectInit, Cond.fieldLink RX3 9 "CubeTower$Ways" "size" "I", Cond.fieldLink RX3 15 "CubeTower$Ways" "sideAt" "[I", Cond.fieldLink RX3 19 "CubeTower$Ways" "turnsTo" "[I", Cond.fieldLink RX3 22 "CubeTower$Ways" "firstTurns" "[I", Cond.static yX4_canTurn, Cond.initialized RX4]
def wsX4_init_r3 : List Cond := [Cond.code yX4_canTurn cX4_canTurn 2 (some .boolean), Cond.fieldLink RX4 102 "CubeTower" "TURNS_OF_KIND" "[I", Cond.methodLink RX3 29 yX3_reach, Cond.instanceMethod yX3_reach, Cond.selects RX3 yX3_reach yX3_reach, Cond.code yX3_reach cX3_reach 5 none, Cond.methodLink RX3 33 arraycopyName, Cond.native arraycopyName, Cond.static arraycopyName, Cond.initialized "java/lang/System", Cond.static yX4_turnRow, Cond.code yX4_turnRow cX4_turnRow 10 none, Cond.fieldLink RX4 134 "CubeTower" "RINGS" "[I", Cond.methodLink RX3 43 yX3_find, Cond.instanceMethod yX3_find, Cond.selects RX3 yX3_find yX3_find, Cond.code yX3_find cX3_find 2 (some .int), Cond.methodLink RX3 47 yX3_sameRows, Cond.instanceMethod yX3_sameRows, Cond.selects RX3 yX3_sameRows yX3_sameRows, Cond.code yX3_sameRows cX3_sameRows 4 (some .boolean)]
def wsX4_init : List Cond := .code yX4_init cX4_init 1 none :: ((wsX4_init_r1 ++ (wsX4_init_r2 ++ wsX4_init_r3)) ++ wsX40 ++ wsX20 ++ wsX10 ++ wsX00 ++ wsX30)
def wsX4_letter : List Cond := .code yX4_letter cX4_letter 2 (some .int) :: ([.fieldLink RX4 33 "CubeTower" "letters" "I", .fieldLink RX4 9 "CubeTower" "page" "[I"] ++ wsX40)
def wsX4_blank : List Cond := .code yX4_blank cX4_blank 2 (some .int) :: ([.fieldLink RX4 33 "CubeTower" "letters" "I"] ++ wsX40)
def wsJ0_isLatin1_aae02 : List Cond := .code yJ0_isLatin1_aae02 cJ0_isLatin1_aae02 1 (some .boolean) :: ([.fieldLink RJ0 38 "java/lang/String" "COMPACT_STRINGS" "Z", .fieldLink RJ0 15 "java/lang/String" "coder" "B"])
def wsJ0_coder_7d493 : List Cond := .code yJ0_coder_7d493 cJ0_coder_7d493 1 (some .byte) :: ([.fieldLink RJ0 38 "java/lang/String" "COMPACT_STRINGS" "Z", .fieldLink RJ0 15 "java/lang/String" "coder" "B"])
def wsJ0_length_8abf5 : List Cond := .code yJ0_length_8abf5 cJ0_length_8abf5 1 (some .int) :: ([.fieldLink RJ0 9 "java/lang/String" "value" "[B", .methodLink RJ0 335 yJ0_coder_7d493, .instanceMethod yJ0_coder_7d493, .selects RJ0 yJ0_coder_7d493 yJ0_coder_7d493, .initialized RJ0, .code yJ0_coder_7d493 cJ0_coder_7d493 1 (some .byte), .fieldLink RJ0 38 "java/lang/String" "COMPACT_STRINGS" "Z", .fieldLink RJ0 15 "java/lang/String" "coder" "B"])
def wsJ1_canEncode_9a6ad : List Cond := .code yJ1_canEncode_9a6ad cJ1_canEncode_9a6ad 1 (some .boolean) :: ([])
def wsJ1_indexOfChar_4cfef : List Cond := .code yJ1_indexOfChar_4cfef cJ1_indexOfChar_4cfef 6 (some .int) :: ([])
def wsJ1_indexOf_4cfef : List Cond := .code yJ1_indexOf_4cfef cJ1_indexOf_4cfef 4 (some .int) :: ([.methodLink RJ1 92 Lib.Math.max.name, .static Lib.Math.max.name, .initialized "java/lang/Math", .code Lib.Math.max.name Lib.Math.max.code 2 (some .int), .methodLink RJ1 38 Lib.Math.min.name, .static Lib.Math.min.name, .code Lib.Math.min.name Lib.Math.min.code 2 (some .int), .methodLink RJ1 88 yJ1_canEncode_9a6ad, .static yJ1_canEncode_9a6ad, .initialized RJ1, .code yJ1_canEncode_9a6ad cJ1_canEncode_9a6ad 1 (some .boolean), .methodLink RJ1 95 yJ1_indexOfChar_4cfef, .static yJ1_indexOfChar_4cfef, .code yJ1_indexOfChar_4cfef cJ1_indexOfChar_4cfef 6 (some .int)])
def wsJ2_length_9d52b : List Cond := .code yJ2_length_9d52b cJ2_length_9d52b 1 (some .int) :: ([])
def wsJ3_checkFromToIndex_8c36e : List Cond := .code yJ3_checkFromToIndex_8c36e cJ3_checkFromToIndex_8c36e 4 (some .int) :: ([])
def wsJ0_checkBoundsBeginEnd_23922 : List Cond := .code yJ0_checkBoundsBeginEnd_23922 cJ0_checkBoundsBeginEnd_23922 3 none :: ([.fieldLink RJ0 1053 "jdk/internal/util/Preconditions" "SIOOBE_FORMATTER" "Ljava/util/function/BiFunction;", .methodLink RJ0 1062 yJ3_checkFromToIndex_8c36e, .static yJ3_checkFromToIndex_8c36e, .initialized RJ3, .code yJ3_checkFromToIndex_8c36e cJ3_checkFromToIndex_8c36e 4 (some .int)])
def wsJ2_checkBoundsBeginEnd_d044e : List Cond := .code yJ2_checkBoundsBeginEnd_d044e cJ2_checkBoundsBeginEnd_d044e 3 none :: ([.methodLink RJ2 48 yJ2_length_9d52b, .static yJ2_length_9d52b, .initialized RJ2, .code yJ2_length_9d52b cJ2_length_9d52b 1 (some .int), .methodLink RJ2 241 yJ0_checkBoundsBeginEnd_23922, .static yJ0_checkBoundsBeginEnd_23922, .initialized RJ0, .code yJ0_checkBoundsBeginEnd_23922 cJ0_checkBoundsBeginEnd_23922 3 none, .fieldLink RJ0 1053 "jdk/internal/util/Preconditions" "SIOOBE_FORMATTER" "Ljava/util/function/BiFunction;", .methodLink RJ0 1062 yJ3_checkFromToIndex_8c36e, .static yJ3_checkFromToIndex_8c36e, .initialized RJ3, .code yJ3_checkFromToIndex_8c36e cJ3_checkFromToIndex_8c36e 4 (some .int)])
def wsJ2_getChar_3b067 : List Cond := .code yJ2_getChar_3b067 cJ2_getChar_3b067 2 (some .char) :: ([.fieldLink RJ2 44 "java/lang/StringUTF16" "$assertionsDisabled" "Z", .fieldLink RJ2 59 "java/lang/StringUTF16" "HI_BYTE_SHIFT" "I", .fieldLink RJ2 63 "java/lang/StringUTF16" "LO_BYTE_SHIFT" "I", .methodLink RJ2 48 yJ2_length_9d52b, .static yJ2_length_9d52b, .initialized RJ2, .code yJ2_length_9d52b cJ2_length_9d52b 1 (some .int)])
def wsJ2_indexOfCharUnsafe_4cfef : List Cond := .code yJ2_indexOfCharUnsafe_4cfef cJ2_indexOfCharUnsafe_4cfef 5 (some .int) :: ([.methodLink RJ2 71 yJ2_getChar_3b067, .static yJ2_getChar_3b067, .initialized RJ2, .code yJ2_getChar_3b067 cJ2_getChar_3b067 2 (some .char), .fieldLink RJ2 44 "java/lang/StringUTF16" "$assertionsDisabled" "Z", .fieldLink RJ2 59 "java/lang/StringUTF16" "HI_BYTE_SHIFT" "I", .fieldLink RJ2 63 "java/lang/StringUTF16" "LO_BYTE_SHIFT" "I", .methodLink RJ2 48 yJ2_length_9d52b, .static yJ2_length_9d52b, .code yJ2_length_9d52b cJ2_length_9d52b 1 (some .int)])
def wsJ2_indexOfChar_4cfef_r1 : List Cond := [Cond.methodLink RJ2 96 yJ2_checkBoundsBeginEnd_d044e, Cond.static yJ2_checkBoundsBeginEnd_d044e, Cond.initialized RJ2, Cond.code yJ2_checkBoundsBeginEnd_d044e cJ2_checkBoundsBeginEnd_d044e 3 none, Cond.methodLink RJ2 48 yJ2_length_9d52b, Cond.static yJ2_length_9d52b, Cond.code yJ2_length_9d52b cJ2_length_9d52b 1 (some .int), Cond.methodLink RJ2 241 yJ0_checkBoundsBeginEnd_23922, Cond.static yJ0_checkBoundsBeginEnd_23922, Cond.initialized RJ0, Cond.code yJ0_checkBoundsBeginEnd_23922 cJ0_checkBoundsBeginEnd_23922 3 none, Cond.fieldLink RJ0 1053 "jdk/internal/util/Preconditions" "SIOOBE_FORMATTER" "Ljava/util/function/BiFunction;", Cond.methodLink RJ0 1062 yJ3_checkFromToIndex_8c36e, Cond.static yJ3_checkFromToIndex_8c36e, Cond.initialized RJ3, Cond.code yJ3_checkFromToIndex_8c36e cJ3_checkFromToIndex_8c36e 4 (some .int), Cond.methodLink RJ2 244 yJ2_indexOfCharUnsafe_4cfef, Cond.static yJ2_indexOfCharUnsafe_4cfef, Cond.code yJ2_indexOfCharUnsafe_4cfef cJ2_indexOfCharUnsafe_4cfef 5 (some .int), Cond.methodLink RJ2 71 yJ2_getChar_3b067, Cond.static yJ2_getChar_3b067, Cond.code yJ2_getChar_3b067 cJ2_getChar_3b067 2 (some .char), Cond.fieldLink RJ2 44 "java/lang/StringUTF16" "$assertionsDisabled" "Z", Cond.fieldLink RJ2 59 "java/lang/StringUTF16" "HI_BYTE_SHIFT" "I"]
def wsJ2_indexOfChar_4cfef_r2 : List Cond := [Cond.fieldLink RJ2 63 "java/lang/StringUTF16" "LO_BYTE_SHIFT" "I"]
def wsJ2_indexOfChar_4cfef : List Cond := .code yJ2_indexOfChar_4cfef cJ2_indexOfChar_4cfef 4 (some .int) :: ((wsJ2_indexOfChar_4cfef_r1 ++ wsJ2_indexOfChar_4cfef_r2))
def wsJ11_isValidCodePoint_9a6ad : List Cond := .code yJ11_isValidCodePoint_9a6ad cJ11_isValidCodePoint_9a6ad 2 (some .boolean) :: ([])
def wsJ11_highSurrogate_5068e : List Cond := .code yJ11_highSurrogate_5068e cJ11_highSurrogate_5068e 1 (some .char) :: ([.constant RJ11 110 (55232)])
def wsJ11_lowSurrogate_5068e : List Cond := .code yJ11_lowSurrogate_5068e cJ11_lowSurrogate_5068e 1 (some .char) :: ([.constant RJ11 76 (56320)])
def wsJ2_indexOfSupplementary_4cfef_r1 : List Cond := [Cond.methodLink RJ2 164 yJ11_isValidCodePoint_9a6ad, Cond.static yJ11_isValidCodePoint_9a6ad, Cond.initialized RJ11, Cond.code yJ11_isValidCodePoint_9a6ad cJ11_isValidCodePoint_9a6ad 2 (some .boolean), Cond.methodLink RJ2 157 yJ11_highSurrogate_5068e, Cond.static yJ11_highSurrogate_5068e, Cond.code yJ11_highSurrogate_5068e cJ11_highSurrogate_5068e 1 (some .char), Cond.constant RJ11 110 (55232), Cond.methodLink RJ2 161 yJ11_lowSurrogate_5068e, Cond.static yJ11_lowSurrogate_5068e, Cond.code yJ11_lowSurrogate_5068e cJ11_lowSurrogate_5068e 1 (some .char), Cond.constant RJ11 76 (56320), Cond.methodLink RJ2 96 yJ2_checkBoundsBeginEnd_d044e, Cond.static yJ2_checkBoundsBeginEnd_d044e, Cond.initialized RJ2, Cond.code yJ2_checkBoundsBeginEnd_d044e cJ2_checkBoundsBeginEnd_d044e 3 none, Cond.methodLink RJ2 48 yJ2_length_9d52b, Cond.static yJ2_length_9d52b, Cond.code yJ2_length_9d52b cJ2_length_9d52b 1 (some .int), Cond.methodLink RJ2 241 yJ0_checkBoundsBeginEnd_23922, Cond.static yJ0_checkBoundsBeginEnd_23922, Cond.initialized RJ0, Cond.code yJ0_checkBoundsBeginEnd_23922 cJ0_checkBoundsBeginEnd_23922 3 none, Cond.fieldLink RJ0 1053 "jdk/internal/util/Preconditions" "SIOOBE_FORMATTER" "Ljava/util/function/BiFunction;"]
def wsJ2_indexOfSupplementary_4cfef_r2 : List Cond := [Cond.methodLink RJ0 1062 yJ3_checkFromToIndex_8c36e, Cond.static yJ3_checkFromToIndex_8c36e, Cond.initialized RJ3, Cond.code yJ3_checkFromToIndex_8c36e cJ3_checkFromToIndex_8c36e 4 (some .int), Cond.methodLink RJ2 71 yJ2_getChar_3b067, Cond.static yJ2_getChar_3b067, Cond.code yJ2_getChar_3b067 cJ2_getChar_3b067 2 (some .char), Cond.fieldLink RJ2 44 "java/lang/StringUTF16" "$assertionsDisabled" "Z", Cond.fieldLink RJ2 59 "java/lang/StringUTF16" "HI_BYTE_SHIFT" "I", Cond.fieldLink RJ2 63 "java/lang/StringUTF16" "LO_BYTE_SHIFT" "I"]
def wsJ2_indexOfSupplementary_4cfef : List Cond := .code yJ2_indexOfSupplementary_4cfef cJ2_indexOfSupplementary_4cfef 7 (some .int) :: ((wsJ2_indexOfSupplementary_4cfef_r1 ++ wsJ2_indexOfSupplementary_4cfef_r2))
def wsJ2_indexOf_4cfef_r1 : List Cond := [Cond.methodLink RJ2 224 Lib.Math.max.name, Cond.static Lib.Math.max.name, Cond.initialized "java/lang/Math", Cond.code Lib.Math.max.name Lib.Math.max.code 2 (some .int), Cond.methodLink RJ2 183 Lib.Math.min.name, Cond.static Lib.Math.min.name, Cond.code Lib.Math.min.name Lib.Math.min.code 2 (some .int), Cond.constant RJ2 227 (65536), Cond.methodLink RJ2 228 yJ2_indexOfChar_4cfef, Cond.static yJ2_indexOfChar_4cfef, Cond.initialized RJ2, Cond.code yJ2_indexOfChar_4cfef cJ2_indexOfChar_4cfef 4 (some .int), Cond.methodLink RJ2 96 yJ2_checkBoundsBeginEnd_d044e, Cond.static yJ2_checkBoundsBeginEnd_d044e, Cond.code yJ2_checkBoundsBeginEnd_d044e cJ2_checkBoundsBeginEnd_d044e 3 none, Cond.methodLink RJ2 48 yJ2_length_9d52b, Cond.static yJ2_length_9d52b, Cond.code yJ2_length_9d52b cJ2_length_9d52b 1 (some .int), Cond.methodLink RJ2 241 yJ0_checkBoundsBeginEnd_23922, Cond.static yJ0_checkBoundsBeginEnd_23922, Cond.initialized RJ0, Cond.code yJ0_checkBoundsBeginEnd_23922 cJ0_checkBoundsBeginEnd_23922 3 none, Cond.fieldLink RJ0 1053 "jdk/internal/util/Preconditions" "SIOOBE_FORMATTER" "Ljava/util/function/BiFunction;", Cond.methodLink RJ0 1062 yJ3_checkFromToIndex_8c36e]
def wsJ2_indexOf_4cfef_r2 : List Cond := [Cond.static yJ3_checkFromToIndex_8c36e, Cond.initialized RJ3, Cond.code yJ3_checkFromToIndex_8c36e cJ3_checkFromToIndex_8c36e 4 (some .int), Cond.methodLink RJ2 244 yJ2_indexOfCharUnsafe_4cfef, Cond.static yJ2_indexOfCharUnsafe_4cfef, Cond.code yJ2_indexOfCharUnsafe_4cfef cJ2_indexOfCharUnsafe_4cfef 5 (some .int), Cond.methodLink RJ2 71 yJ2_getChar_3b067, Cond.static yJ2_getChar_3b067, Cond.code yJ2_getChar_3b067 cJ2_getChar_3b067 2 (some .char), Cond.fieldLink RJ2 44 "java/lang/StringUTF16" "$assertionsDisabled" "Z", Cond.fieldLink RJ2 59 "java/lang/StringUTF16" "HI_BYTE_SHIFT" "I", Cond.fieldLink RJ2 63 "java/lang/StringUTF16" "LO_BYTE_SHIFT" "I", Cond.methodLink RJ2 232 yJ2_indexOfSupplementary_4cfef, Cond.static yJ2_indexOfSupplementary_4cfef, Cond.code yJ2_indexOfSupplementary_4cfef cJ2_indexOfSupplementary_4cfef 7 (some .int), Cond.methodLink RJ2 164 yJ11_isValidCodePoint_9a6ad, Cond.static yJ11_isValidCodePoint_9a6ad, Cond.initialized RJ11, Cond.code yJ11_isValidCodePoint_9a6ad cJ11_isValidCodePoint_9a6ad 2 (some .boolean), Cond.methodLink RJ2 157 yJ11_highSurrogate_5068e, Cond.static yJ11_highSurrogate_5068e, Cond.code yJ11_highSurrogate_5068e cJ11_highSurrogate_5068e 1 (some .char), Cond.constant RJ11 110 (55232), Cond.methodLink RJ2 161 yJ11_lowSurrogate_5068e]
def wsJ2_indexOf_4cfef_r3 : List Cond := [Cond.static yJ11_lowSurrogate_5068e, Cond.code yJ11_lowSurrogate_5068e cJ11_lowSurrogate_5068e 1 (some .char), Cond.constant RJ11 76 (56320)]
def wsJ2_indexOf_4cfef : List Cond := .code yJ2_indexOf_4cfef cJ2_indexOf_4cfef 4 (some .int) :: ((wsJ2_indexOf_4cfef_r1 ++ (wsJ2_indexOf_4cfef_r2 ++ wsJ2_indexOf_4cfef_r3)))
def wsJ0_indexOf_7cf53_r1 : List Cond := [Cond.fieldLink RJ0 9 "java/lang/String" "value" "[B", Cond.methodLink RJ0 492 yJ0_isLatin1_aae02, Cond.instanceMethod yJ0_isLatin1_aae02, Cond.selects RJ0 yJ0_isLatin1_aae02 yJ0_isLatin1_aae02, Cond.initialized RJ0, Cond.code yJ0_isLatin1_aae02 cJ0_isLatin1_aae02 1 (some .boolean), Cond.fieldLink RJ0 38 "java/lang/String" "COMPACT_STRINGS" "Z", Cond.fieldLink RJ0 15 "java/lang/String" "coder" "B", Cond.methodLink RJ0 505 yJ0_length_8abf5, Cond.instanceMethod yJ0_length_8abf5, Cond.selects RJ0 yJ0_length_8abf5 yJ0_length_8abf5, Cond.code yJ0_length_8abf5 cJ0_length_8abf5 1 (some .int), Cond.methodLink RJ0 335 yJ0_coder_7d493, Cond.instanceMethod yJ0_coder_7d493, Cond.selects RJ0 yJ0_coder_7d493 yJ0_coder_7d493, Cond.code yJ0_coder_7d493 cJ0_coder_7d493 1 (some .byte), Cond.methodLink RJ0 637 yJ1_indexOf_4cfef, Cond.static yJ1_indexOf_4cfef, Cond.initialized RJ1, Cond.code yJ1_indexOf_4cfef cJ1_indexOf_4cfef 4 (some .int), Cond.methodLink RJ1 92 Lib.Math.max.name, Cond.static Lib.Math.max.name, Cond.initialized "java/lang/Math", Cond.code Lib.Math.max.name Lib.Math.max.code 2 (some .int)]
def wsJ0_indexOf_7cf53_r2 : List Cond := [Cond.methodLink RJ1 38 Lib.Math.min.name, Cond.static Lib.Math.min.name, Cond.code Lib.Math.min.name Lib.Math.min.code 2 (some .int), Cond.methodLink RJ1 88 yJ1_canEncode_9a6ad, Cond.static yJ1_canEncode_9a6ad, Cond.code yJ1_canEncode_9a6ad cJ1_canEncode_9a6ad 1 (some .boolean), Cond.methodLink RJ1 95 yJ1_indexOfChar_4cfef, Cond.static yJ1_indexOfChar_4cfef, Cond.code yJ1_indexOfChar_4cfef cJ1_indexOfChar_4cfef 6 (some .int), Cond.methodLink RJ0 640 yJ2_indexOf_4cfef, Cond.static yJ2_indexOf_4cfef, Cond.initialized RJ2, Cond.code yJ2_indexOf_4cfef cJ2_indexOf_4cfef 4 (some .int), Cond.methodLink RJ2 224 Lib.Math.max.name, Cond.methodLink RJ2 183 Lib.Math.min.name, Cond.constant RJ2 227 (65536), Cond.methodLink RJ2 228 yJ2_indexOfChar_4cfef, Cond.static yJ2_indexOfChar_4cfef, Cond.code yJ2_indexOfChar_4cfef cJ2_indexOfChar_4cfef 4 (some .int), Cond.methodLink RJ2 96 yJ2_checkBoundsBeginEnd_d044e, Cond.static yJ2_checkBoundsBeginEnd_d044e, Cond.code yJ2_checkBoundsBeginEnd_d044e cJ2_checkBoundsBeginEnd_d044e 3 none, Cond.methodLink RJ2 48 yJ2_length_9d52b, Cond.static yJ2_length_9d52b]
def wsJ0_indexOf_7cf53_r3 : List Cond := [Cond.code yJ2_length_9d52b cJ2_length_9d52b 1 (some .int), Cond.methodLink RJ2 241 yJ0_checkBoundsBeginEnd_23922, Cond.static yJ0_checkBoundsBeginEnd_23922, Cond.code yJ0_checkBoundsBeginEnd_23922 cJ0_checkBoundsBeginEnd_23922 3 none, Cond.fieldLink RJ0 1053 "jdk/internal/util/Preconditions" "SIOOBE_FORMATTER" "Ljava/util/function/BiFunction;", Cond.methodLink RJ0 1062 yJ3_checkFromToIndex_8c36e, Cond.static yJ3_checkFromToIndex_8c36e, Cond.initialized RJ3, Cond.code yJ3_checkFromToIndex_8c36e cJ3_checkFromToIndex_8c36e 4 (some .int), Cond.methodLink RJ2 244 yJ2_indexOfCharUnsafe_4cfef, Cond.static yJ2_indexOfCharUnsafe_4cfef, Cond.code yJ2_indexOfCharUnsafe_4cfef cJ2_indexOfCharUnsafe_4cfef 5 (some .int), Cond.methodLink RJ2 71 yJ2_getChar_3b067, Cond.static yJ2_getChar_3b067, Cond.code yJ2_getChar_3b067 cJ2_getChar_3b067 2 (some .char), Cond.fieldLink RJ2 44 "java/lang/StringUTF16" "$assertionsDisabled" "Z", Cond.fieldLink RJ2 59 "java/lang/StringUTF16" "HI_BYTE_SHIFT" "I", Cond.fieldLink RJ2 63 "java/lang/StringUTF16" "LO_BYTE_SHIFT" "I", Cond.methodLink RJ2 232 yJ2_indexOfSupplementary_4cfef, Cond.static yJ2_indexOfSupplementary_4cfef, Cond.code yJ2_indexOfSupplementary_4cfef cJ2_indexOfSupplementary_4cfef 7 (some .int), Cond.methodLink RJ2 164 yJ11_isValidCodePoint_9a6ad, Cond.static yJ11_isValidCodePoint_9a6ad, Cond.initialized RJ11]
def wsJ0_indexOf_7cf53_r4 : List Cond := [Cond.code yJ11_isValidCodePoint_9a6ad cJ11_isValidCodePoint_9a6ad 2 (some .boolean), Cond.methodLink RJ2 157 yJ11_highSurrogate_5068e, Cond.static yJ11_highSurrogate_5068e, Cond.code yJ11_highSurrogate_5068e cJ11_highSurrogate_5068e 1 (some .char), Cond.constant RJ11 110 (55232), Cond.methodLink RJ2 161 yJ11_lowSurrogate_5068e, Cond.static yJ11_lowSurrogate_5068e, Cond.code yJ11_lowSurrogate_5068e cJ11_lowSurrogate_5068e 1 (some .char), Cond.constant RJ11 76 (56320)]
def wsJ0_indexOf_7cf53 : List Cond := .code yJ0_indexOf_7cf53 cJ0_indexOf_7cf53 3 (some .int) :: ((wsJ0_indexOf_7cf53_r1 ++ (wsJ0_indexOf_7cf53_r2 ++ (wsJ0_indexOf_7cf53_r3 ++ wsJ0_indexOf_7cf53_r4))))
def wsJ0_indexOf_0f7a4_r1 : List Cond := [Cond.methodLink RJ0 633 yJ0_indexOf_7cf53, Cond.instanceMethod yJ0_indexOf_7cf53, Cond.selects RJ0 yJ0_indexOf_7cf53 yJ0_indexOf_7cf53, Cond.initialized RJ0, Cond.code yJ0_indexOf_7cf53 cJ0_indexOf_7cf53 3 (some .int), Cond.fieldLink RJ0 9 "java/lang/String" "value" "[B", Cond.methodLink RJ0 492 yJ0_isLatin1_aae02, Cond.instanceMethod yJ0_isLatin1_aae02, Cond.selects RJ0 yJ0_isLatin1_aae02 yJ0_isLatin1_aae02, Cond.code yJ0_isLatin1_aae02 cJ0_isLatin1_aae02 1 (some .boolean), Cond.fieldLink RJ0 38 "java/lang/String" "COMPACT_STRINGS" "Z", Cond.fieldLink RJ0 15 "java/lang/String" "coder" "B", Cond.methodLink RJ0 505 yJ0_length_8abf5, Cond.instanceMethod yJ0_length_8abf5, Cond.selects RJ0 yJ0_length_8abf5 yJ0_length_8abf5, Cond.code yJ0_length_8abf5 cJ0_length_8abf5 1 (some .int), Cond.methodLink RJ0 335 yJ0_coder_7d493, Cond.instanceMethod yJ0_coder_7d493, Cond.selects RJ0 yJ0_coder_7d493 yJ0_coder_7d493, Cond.code yJ0_coder_7d493 cJ0_coder_7d493 1 (some .byte), Cond.methodLink RJ0 637 yJ1_indexOf_4cfef, Cond.static yJ1_indexOf_4cfef, Cond.initialized RJ1, Cond.code yJ1_indexOf_4cfef cJ1_indexOf_4cfef 4 (some .int)]
def wsJ0_indexOf_0f7a4_r2 : List Cond := [Cond.methodLink RJ1 92 Lib.Math.max.name, Cond.static Lib.Math.max.name, Cond.initialized "java/lang/Math", Cond.code Lib.Math.max.name Lib.Math.max.code 2 (some .int), Cond.methodLink RJ1 38 Lib.Math.min.name, Cond.static Lib.Math.min.name, Cond.code Lib.Math.min.name Lib.Math.min.code 2 (some .int), Cond.methodLink RJ1 88 yJ1_canEncode_9a6ad, Cond.static yJ1_canEncode_9a6ad, Cond.code yJ1_canEncode_9a6ad cJ1_canEncode_9a6ad 1 (some .boolean), Cond.methodLink RJ1 95 yJ1_indexOfChar_4cfef, Cond.static yJ1_indexOfChar_4cfef, Cond.code yJ1_indexOfChar_4cfef cJ1_indexOfChar_4cfef 6 (some .int), Cond.methodLink RJ0 640 yJ2_indexOf_4cfef, Cond.static yJ2_indexOf_4cfef, Cond.initialized RJ2, Cond.code yJ2_indexOf_4cfef cJ2_indexOf_4cfef 4 (some .int), Cond.methodLink RJ2 224 Lib.Math.max.name, Cond.methodLink RJ2 183 Lib.Math.min.name, Cond.constant RJ2 227 (65536), Cond.methodLink RJ2 228 yJ2_indexOfChar_4cfef, Cond.static yJ2_indexOfChar_4cfef, Cond.code yJ2_indexOfChar_4cfef cJ2_indexOfChar_4cfef 4 (some .int), Cond.methodLink RJ2 96 yJ2_checkBoundsBeginEnd_d044e]
def wsJ0_indexOf_0f7a4_r3 : List Cond := [Cond.static yJ2_checkBoundsBeginEnd_d044e, Cond.code yJ2_checkBoundsBeginEnd_d044e cJ2_checkBoundsBeginEnd_d044e 3 none, Cond.methodLink RJ2 48 yJ2_length_9d52b, Cond.static yJ2_length_9d52b, Cond.code yJ2_length_9d52b cJ2_length_9d52b 1 (some .int), Cond.methodLink RJ2 241 yJ0_checkBoundsBeginEnd_23922, Cond.static yJ0_checkBoundsBeginEnd_23922, Cond.code yJ0_checkBoundsBeginEnd_23922 cJ0_checkBoundsBeginEnd_23922 3 none, Cond.fieldLink RJ0 1053 "jdk/internal/util/Preconditions" "SIOOBE_FORMATTER" "Ljava/util/function/BiFunction;", Cond.methodLink RJ0 1062 yJ3_checkFromToIndex_8c36e, Cond.static yJ3_checkFromToIndex_8c36e, Cond.initialized RJ3, Cond.code yJ3_checkFromToIndex_8c36e cJ3_checkFromToIndex_8c36e 4 (some .int), Cond.methodLink RJ2 244 yJ2_indexOfCharUnsafe_4cfef, Cond.static yJ2_indexOfCharUnsafe_4cfef, Cond.code yJ2_indexOfCharUnsafe_4cfef cJ2_indexOfCharUnsafe_4cfef 5 (some .int), Cond.methodLink RJ2 71 yJ2_getChar_3b067, Cond.static yJ2_getChar_3b067, Cond.code yJ2_getChar_3b067 cJ2_getChar_3b067 2 (some .char), Cond.fieldLink RJ2 44 "java/lang/StringUTF16" "$assertionsDisabled" "Z", Cond.fieldLink RJ2 59 "java/lang/StringUTF16" "HI_BYTE_SHIFT" "I", Cond.fieldLink RJ2 63 "java/lang/StringUTF16" "LO_BYTE_SHIFT" "I", Cond.methodLink RJ2 232 yJ2_indexOfSupplementary_4cfef, Cond.static yJ2_indexOfSupplementary_4cfef]
def wsJ0_indexOf_0f7a4_r4 : List Cond := [Cond.code yJ2_indexOfSupplementary_4cfef cJ2_indexOfSupplementary_4cfef 7 (some .int), Cond.methodLink RJ2 164 yJ11_isValidCodePoint_9a6ad, Cond.static yJ11_isValidCodePoint_9a6ad, Cond.initialized RJ11, Cond.code yJ11_isValidCodePoint_9a6ad cJ11_isValidCodePoint_9a6ad 2 (some .boolean), Cond.methodLink RJ2 157 yJ11_highSurrogate_5068e, Cond.static yJ11_highSurrogate_5068e, Cond.code yJ11_highSurrogate_5068e cJ11_highSurrogate_5068e 1 (some .char), Cond.constant RJ11 110 (55232), Cond.methodLink RJ2 161 yJ11_lowSurrogate_5068e, Cond.static yJ11_lowSurrogate_5068e, Cond.code yJ11_lowSurrogate_5068e cJ11_lowSurrogate_5068e 1 (some .char), Cond.constant RJ11 76 (56320)]
def wsJ0_indexOf_0f7a4 : List Cond := .code yJ0_indexOf_0f7a4 cJ0_indexOf_0f7a4 2 (some .int) :: ((wsJ0_indexOf_0f7a4_r1 ++ (wsJ0_indexOf_0f7a4_r2 ++ (wsJ0_indexOf_0f7a4_r3 ++ wsJ0_indexOf_0f7a4_r4))))
def wsX4_fits_r1 : List Cond := [Cond.methodLink RX4 61 yJ0_indexOf_0f7a4, Cond.instanceMethod yJ0_indexOf_0f7a4, Cond.selects RJ0 yJ0_indexOf_0f7a4 yJ0_indexOf_0f7a4, Cond.initialized RJ0, Cond.code yJ0_indexOf_0f7a4 cJ0_indexOf_0f7a4 2 (some .int), Cond.methodLink RJ0 633 yJ0_indexOf_7cf53, Cond.instanceMethod yJ0_indexOf_7cf53, Cond.selects RJ0 yJ0_indexOf_7cf53 yJ0_indexOf_7cf53, Cond.code yJ0_indexOf_7cf53 cJ0_indexOf_7cf53 3 (some .int), Cond.fieldLink RJ0 9 "java/lang/String" "value" "[B", Cond.methodLink RJ0 492 yJ0_isLatin1_aae02, Cond.instanceMethod yJ0_isLatin1_aae02, Cond.selects RJ0 yJ0_isLatin1_aae02 yJ0_isLatin1_aae02, Cond.code yJ0_isLatin1_aae02 cJ0_isLatin1_aae02 1 (some .boolean), Cond.fieldLink RJ0 38 "java/lang/String" "COMPACT_STRINGS" "Z", Cond.fieldLink RJ0 15 "java/lang/String" "coder" "B", Cond.methodLink RJ0 505 yJ0_length_8abf5, Cond.instanceMethod yJ0_length_8abf5, Cond.selects RJ0 yJ0_length_8abf5 yJ0_length_8abf5, Cond.code yJ0_length_8abf5 cJ0_length_8abf5 1 (some .int), Cond.methodLink RJ0 335 yJ0_coder_7d493, Cond.instanceMethod yJ0_coder_7d493, Cond.selects RJ0 yJ0_coder_7d493 yJ0_coder_7d493, Cond.code yJ0_coder_7d493 cJ0_coder_7d493 1 (some .byte)]
def wsX4_fits_r2 : List Cond := [Cond.methodLink RJ0 637 yJ1_indexOf_4cfef, Cond.static yJ1_indexOf_4cfef, Cond.initialized RJ1, Cond.code yJ1_indexOf_4cfef cJ1_indexOf_4cfef 4 (some .int), Cond.methodLink RJ1 92 Lib.Math.max.name, Cond.static Lib.Math.max.name, Cond.initialized "java/lang/Math", Cond.code Lib.Math.max.name Lib.Math.max.code 2 (some .int), Cond.methodLink RJ1 38 Lib.Math.min.name, Cond.static Lib.Math.min.name, Cond.code Lib.Math.min.name Lib.Math.min.code 2 (some .int), Cond.methodLink RJ1 88 yJ1_canEncode_9a6ad, Cond.static yJ1_canEncode_9a6ad, Cond.code yJ1_canEncode_9a6ad cJ1_canEncode_9a6ad 1 (some .boolean), Cond.methodLink RJ1 95 yJ1_indexOfChar_4cfef, Cond.static yJ1_indexOfChar_4cfef, Cond.code yJ1_indexOfChar_4cfef cJ1_indexOfChar_4cfef 6 (some .int), Cond.methodLink RJ0 640 yJ2_indexOf_4cfef, Cond.static yJ2_indexOf_4cfef, Cond.initialized RJ2, Cond.code yJ2_indexOf_4cfef cJ2_indexOf_4cfef 4 (some .int), Cond.methodLink RJ2 224 Lib.Math.max.name, Cond.methodLink RJ2 183 Lib.Math.min.name, Cond.constant RJ2 227 (65536)]
def wsX4_fits_r3 : List Cond := [Cond.methodLink RJ2 228 yJ2_indexOfChar_4cfef, Cond.static yJ2_indexOfChar_4cfef, Cond.code yJ2_indexOfChar_4cfef cJ2_indexOfChar_4cfef 4 (some .int), Cond.methodLink RJ2 96 yJ2_checkBoundsBeginEnd_d044e, Cond.static yJ2_checkBoundsBeginEnd_d044e, Cond.code yJ2_checkBoundsBeginEnd_d044e cJ2_checkBoundsBeginEnd_d044e 3 none, Cond.methodLink RJ2 48 yJ2_length_9d52b, Cond.static yJ2_length_9d52b, Cond.code yJ2_length_9d52b cJ2_length_9d52b 1 (some .int), Cond.methodLink RJ2 241 yJ0_checkBoundsBeginEnd_23922, Cond.static yJ0_checkBoundsBeginEnd_23922, Cond.code yJ0_checkBoundsBeginEnd_23922 cJ0_checkBoundsBeginEnd_23922 3 none, Cond.fieldLink RJ0 1053 "jdk/internal/util/Preconditions" "SIOOBE_FORMATTER" "Ljava/util/function/BiFunction;", Cond.methodLink RJ0 1062 yJ3_checkFromToIndex_8c36e, Cond.static yJ3_checkFromToIndex_8c36e, Cond.initialized RJ3, Cond.code yJ3_checkFromToIndex_8c36e cJ3_checkFromToIndex_8c36e 4 (some .int), Cond.methodLink RJ2 244 yJ2_indexOfCharUnsafe_4cfef, Cond.static yJ2_indexOfCharUnsafe_4cfef, Cond.code yJ2_indexOfCharUnsafe_4cfef cJ2_indexOfCharUnsafe_4cfef 5 (some .int), Cond.methodLink RJ2 71 yJ2_getChar_3b067, Cond.static yJ2_getChar_3b067, Cond.code yJ2_getChar_3b067 cJ2_getChar_3b067 2 (some .char), Cond.fieldLink RJ2 44 "java/lang/StringUTF16" "$assertionsDisabled" "Z"]
def wsX4_fits_r4 : List Cond := [Cond.fieldLink RJ2 59 "java/lang/StringUTF16" "HI_BYTE_SHIFT" "I", Cond.fieldLink RJ2 63 "java/lang/StringUTF16" "LO_BYTE_SHIFT" "I", Cond.methodLink RJ2 232 yJ2_indexOfSupplementary_4cfef, Cond.static yJ2_indexOfSupplementary_4cfef, Cond.code yJ2_indexOfSupplementary_4cfef cJ2_indexOfSupplementary_4cfef 7 (some .int), Cond.methodLink RJ2 164 yJ11_isValidCodePoint_9a6ad, Cond.static yJ11_isValidCodePoint_9a6ad, Cond.initialized RJ11, Cond.code yJ11_isValidCodePoint_9a6ad cJ11_isValidCodePoint_9a6ad 2 (some .boolean), Cond.methodLink RJ2 157 yJ11_highSurrogate_5068e, Cond.static yJ11_highSurrogate_5068e, Cond.code yJ11_highSurrogate_5068e cJ11_highSurrogate_5068e 1 (some .char), Cond.constant RJ11 110 (55232), Cond.methodLink RJ2 161 yJ11_lowSurrogate_5068e, Cond.static yJ11_lowSurrogate_5068e, Cond.code yJ11_lowSurrogate_5068e cJ11_lowSurrogate_5068e 1 (some .char), Cond.constant RJ11 76 (56320)]
def wsX4_fits : List Cond := .code yX4_fits cX4_fits 3 (some .boolean) :: ((wsX4_fits_r1 ++ (wsX4_fits_r2 ++ (wsX4_fits_r3 ++ wsX4_fits_r4))))
def wsX4_fault_r1 : List Cond := [Cond.fieldLink RX4 33 "CubeTower" "letters" "I", Cond.fieldLink RX4 9 "CubeTower" "page" "[I", Cond.methodLink RX4 37 yX4_fits, Cond.static yX4_fits, Cond.initialized RX4, Cond.code yX4_fits cX4_fits 3 (some .boolean), Cond.methodLink RX4 61 yJ0_indexOf_0f7a4, Cond.instanceMethod yJ0_indexOf_0f7a4, Cond.selects RJ0 yJ0_indexOf_0f7a4 yJ0_indexOf_0f7a4, Cond.initialized RJ0, Cond.code yJ0_indexOf_0f7a4 cJ0_indexOf_0f7a4 2 (some .int), Cond.methodLink RJ0 633 yJ0_indexOf_7cf53, Cond.instanceMethod yJ0_indexOf_7cf53, Cond.selects RJ0 yJ0_indexOf_7cf53 yJ0_indexOf_7cf53, Cond.code yJ0_indexOf_7cf53 cJ0_indexOf_7cf53 3 (some .int), Cond.fieldLink RJ0 9 "java/lang/String" "value" "[B", Cond.methodLink RJ0 492 yJ0_isLatin1_aae02, Cond.instanceMethod yJ0_isLatin1_aae02, Cond.selects RJ0 yJ0_isLatin1_aae02 yJ0_isLatin1_aae02, Cond.code yJ0_isLatin1_aae02 cJ0_isLatin1_aae02 1 (some .boolean), Cond.fieldLink RJ0 38 "java/lang/String" "COMPACT_STRINGS" "Z", Cond.fieldLink RJ0 15 "java/lang/String" "coder" "B", Cond.methodLink RJ0 505 yJ0_length_8abf5, Cond.instanceMethod yJ0_length_8abf5]
def wsX4_fault_r2 : List Cond := [Cond.selects RJ0 yJ0_length_8abf5 yJ0_length_8abf5, Cond.code yJ0_length_8abf5 cJ0_length_8abf5 1 (some .int), Cond.methodLink RJ0 335 yJ0_coder_7d493, Cond.instanceMethod yJ0_coder_7d493, Cond.selects RJ0 yJ0_coder_7d493 yJ0_coder_7d493, Cond.code yJ0_coder_7d493 cJ0_coder_7d493 1 (some .byte), Cond.methodLink RJ0 637 yJ1_indexOf_4cfef, Cond.static yJ1_indexOf_4cfef, Cond.initialized RJ1, Cond.code yJ1_indexOf_4cfef cJ1_indexOf_4cfef 4 (some .int), Cond.methodLink RJ1 92 Lib.Math.max.name, Cond.static Lib.Math.max.name, Cond.initialized "java/lang/Math", Cond.code Lib.Math.max.name Lib.Math.max.code 2 (some .int), Cond.methodLink RJ1 38 Lib.Math.min.name, Cond.static Lib.Math.min.name, Cond.code Lib.Math.min.name Lib.Math.min.code 2 (some .int), Cond.methodLink RJ1 88 yJ1_canEncode_9a6ad, Cond.static yJ1_canEncode_9a6ad, Cond.code yJ1_canEncode_9a6ad cJ1_canEncode_9a6ad 1 (some .boolean), Cond.methodLink RJ1 95 yJ1_indexOfChar_4cfef, Cond.static yJ1_indexOfChar_4cfef, Cond.code yJ1_indexOfChar_4cfef cJ1_indexOfChar_4cfef 6 (some .int), Cond.methodLink RJ0 640 yJ2_indexOf_4cfef]
def wsX4_fault_r3 : List Cond := [Cond.static yJ2_indexOf_4cfef, Cond.initialized RJ2, Cond.code yJ2_indexOf_4cfef cJ2_indexOf_4cfef 4 (some .int), Cond.methodLink RJ2 224 Lib.Math.max.name, Cond.methodLink RJ2 183 Lib.Math.min.name, Cond.constant RJ2 227 (65536), Cond.methodLink RJ2 228 yJ2_indexOfChar_4cfef, Cond.static yJ2_indexOfChar_4cfef, Cond.code yJ2_indexOfChar_4cfef cJ2_indexOfChar_4cfef 4 (some .int), Cond.methodLink RJ2 96 yJ2_checkBoundsBeginEnd_d044e, Cond.static yJ2_checkBoundsBeginEnd_d044e, Cond.code yJ2_checkBoundsBeginEnd_d044e cJ2_checkBoundsBeginEnd_d044e 3 none, Cond.methodLink RJ2 48 yJ2_length_9d52b, Cond.static yJ2_length_9d52b, Cond.code yJ2_length_9d52b cJ2_length_9d52b 1 (some .int), Cond.methodLink RJ2 241 yJ0_checkBoundsBeginEnd_23922, Cond.static yJ0_checkBoundsBeginEnd_23922, Cond.code yJ0_checkBoundsBeginEnd_23922 cJ0_checkBoundsBeginEnd_23922 3 none, Cond.fieldLink RJ0 1053 "jdk/internal/util/Preconditions" "SIOOBE_FORMATTER" "Ljava/util/function/BiFunction;", Cond.methodLink RJ0 1062 yJ3_checkFromToIndex_8c36e, Cond.static yJ3_checkFromToIndex_8c36e, Cond.initialized RJ3, Cond.code yJ3_checkFromToIndex_8c36e cJ3_checkFromToIndex_8c36e 4 (some .int), Cond.methodLink RJ2 244 yJ2_indexOfCharUnsafe_4cfef]
def wsX4_fault_r4 : List Cond := [Cond.static yJ2_indexOfCharUnsafe_4cfef, Cond.code yJ2_indexOfCharUnsafe_4cfef cJ2_indexOfCharUnsafe_4cfef 5 (some .int), Cond.methodLink RJ2 71 yJ2_getChar_3b067, Cond.static yJ2_getChar_3b067, Cond.code yJ2_getChar_3b067 cJ2_getChar_3b067 2 (some .char), Cond.fieldLink RJ2 44 "java/lang/StringUTF16" "$assertionsDisabled" "Z", Cond.fieldLink RJ2 59 "java/lang/StringUTF16" "HI_BYTE_SHIFT" "I", Cond.fieldLink RJ2 63 "java/lang/StringUTF16" "LO_BYTE_SHIFT" "I", Cond.methodLink RJ2 232 yJ2_indexOfSupplementary_4cfef, Cond.static yJ2_indexOfSupplementary_4cfef, Cond.code yJ2_indexOfSupplementary_4cfef cJ2_indexOfSupplementary_4cfef 7 (some .int), Cond.methodLink RJ2 164 yJ11_isValidCodePoint_9a6ad, Cond.static yJ11_isValidCodePoint_9a6ad, Cond.initialized RJ11, Cond.code yJ11_isValidCodePoint_9a6ad cJ11_isValidCodePoint_9a6ad 2 (some .boolean), Cond.methodLink RJ2 157 yJ11_highSurrogate_5068e, Cond.static yJ11_highSurrogate_5068e, Cond.code yJ11_highSurrogate_5068e cJ11_highSurrogate_5068e 1 (some .char), Cond.constant RJ11 110 (55232), Cond.methodLink RJ2 161 yJ11_lowSurrogate_5068e, Cond.static yJ11_lowSurrogate_5068e, Cond.code yJ11_lowSurrogate_5068e cJ11_lowSurrogate_5068e 1 (some .char), Cond.constant RJ11 76 (56320)]
def wsX4_fault : List Cond := .code yX4_fault cX4_fault 2 (some .int) :: ((wsX4_fault_r1 ++ (wsX4_fault_r2 ++ (wsX4_fault_r3 ++ wsX4_fault_r4))) ++ wsX40)
def wsX4_readPage_r1 : List Cond := [Cond.fieldLink RX4 16 "CubeTower" "now" "LCubeTower$Tower;", Cond.fieldLink RX4 52 "CubeTower$Tower" "size" "I", Cond.fieldLink RX4 67 "CubeTower$Tower" "turns" "I", Cond.fieldLink RX4 73 "CubeTower$Tower" "cubes" "[LCubeTower$Cube;", Cond.fieldLink RX4 9 "CubeTower" "page" "[I", Cond.fieldLink RX4 77 "CubeTower$Cube" "kind" "I", Cond.fieldLink RX4 82 "CubeTower$Cube" "colours" "[I", Cond.methodLink RX4 70 yX2_forgetAll, Cond.instanceMethod yX2_forgetAll, Cond.selects RX2 yX2_forgetAll yX2_forgetAll, Cond.initialized RX2, Cond.code yX2_forgetAll cX2_forgetAll 2 none, Cond.fieldLink RX2 25 "CubeTower$Tower" "seen" "I", Cond.fieldLink RX2 12 "CubeTower$Tower" "cubes" "[LCubeTower$Cube;", Cond.fieldLink RX2 32 "CubeTower$Cube" "sorts" "I", Cond.methodLink RX4 61 yJ0_indexOf_0f7a4, Cond.instanceMethod yJ0_indexOf_0f7a4, Cond.selects RJ0 yJ0_indexOf_0f7a4 yJ0_indexOf_0f7a4, Cond.initialized RJ0, Cond.code yJ0_indexOf_0f7a4 cJ0_indexOf_0f7a4 2 (some .int), Cond.methodLink RJ0 633 yJ0_indexOf_7cf53, Cond.instanceMethod yJ0_indexOf_7cf53, Cond.selects RJ0 yJ0_indexOf_7cf53 yJ0_indexOf_7cf53, Cond.code yJ0_indexOf_7cf53 cJ0_indexOf_7cf53 3 (some .int)]
def wsX4_readPage_r2 : List Cond := [Cond.fieldLink RJ0 9 "java/lang/String" "value" "[B", Cond.methodLink RJ0 492 yJ0_isLatin1_aae02, Cond.instanceMethod yJ0_isLatin1_aae02, Cond.selects RJ0 yJ0_isLatin1_aae02 yJ0_isLatin1_aae02, Cond.code yJ0_isLatin1_aae02 cJ0_isLatin1_aae02 1 (some .boolean), Cond.fieldLink RJ0 38 "java/lang/String" "COMPACT_STRINGS" "Z", Cond.fieldLink RJ0 15 "java/lang/String" "coder" "B", Cond.methodLink RJ0 505 yJ0_length_8abf5, Cond.instanceMethod yJ0_length_8abf5, Cond.selects RJ0 yJ0_length_8abf5 yJ0_length_8abf5, Cond.code yJ0_length_8abf5 cJ0_length_8abf5 1 (some .int), Cond.methodLink RJ0 335 yJ0_coder_7d493, Cond.instanceMethod yJ0_coder_7d493, Cond.selects RJ0 yJ0_coder_7d493 yJ0_coder_7d493, Cond.code yJ0_coder_7d493 cJ0_coder_7d493 1 (some .byte), Cond.methodLink RJ0 637 yJ1_indexOf_4cfef, Cond.static yJ1_indexOf_4cfef, Cond.initialized RJ1, Cond.code yJ1_indexOf_4cfef cJ1_indexOf_4cfef 4 (some .int), Cond.methodLink RJ1 92 Lib.Math.max.name, Cond.static Lib.Math.max.name, Cond.initialized "java/lang/Math", Cond.code Lib.Math.max.name Lib.Math.max.code 2 (some .int), Cond.methodLink RJ1 38 Lib.Math.min.name]
def wsX4_readPage_r3 : List Cond := [Cond.static Lib.Math.min.name, Cond.code Lib.Math.min.name Lib.Math.min.code 2 (some .int), Cond.methodLink RJ1 88 yJ1_canEncode_9a6ad, Cond.static yJ1_canEncode_9a6ad, Cond.code yJ1_canEncode_9a6ad cJ1_canEncode_9a6ad 1 (some .boolean), Cond.methodLink RJ1 95 yJ1_indexOfChar_4cfef, Cond.static yJ1_indexOfChar_4cfef, Cond.code yJ1_indexOfChar_4cfef cJ1_indexOfChar_4cfef 6 (some .int), Cond.methodLink RJ0 640 yJ2_indexOf_4cfef, Cond.static yJ2_indexOf_4cfef, Cond.initialized RJ2, Cond.code yJ2_indexOf_4cfef cJ2_indexOf_4cfef 4 (some .int), Cond.methodLink RJ2 224 Lib.Math.max.name, Cond.methodLink RJ2 183 Lib.Math.min.name, Cond.constant RJ2 227 (65536), Cond.methodLink RJ2 228 yJ2_indexOfChar_4cfef, Cond.static yJ2_indexOfChar_4cfef, Cond.code yJ2_indexOfChar_4cfef cJ2_indexOfChar_4cfef 4 (some .int), Cond.methodLink RJ2 96 yJ2_checkBoundsBeginEnd_d044e, Cond.static yJ2_checkBoundsBeginEnd_d044e, Cond.code yJ2_checkBoundsBeginEnd_d044e cJ2_checkBoundsBeginEnd_d044e 3 none, Cond.methodLink RJ2 48 yJ2_length_9d52b, Cond.static yJ2_length_9d52b, Cond.code yJ2_length_9d52b cJ2_length_9d52b 1 (some .int)]
def wsX4_readPage_r4 : List Cond := [Cond.methodLink RJ2 241 yJ0_checkBoundsBeginEnd_23922, Cond.static yJ0_checkBoundsBeginEnd_23922, Cond.code yJ0_checkBoundsBeginEnd_23922 cJ0_checkBoundsBeginEnd_23922 3 none, Cond.fieldLink RJ0 1053 "jdk/internal/util/Preconditions" "SIOOBE_FORMATTER" "Ljava/util/function/BiFunction;", Cond.methodLink RJ0 1062 yJ3_checkFromToIndex_8c36e, Cond.static yJ3_checkFromToIndex_8c36e, Cond.initialized RJ3, Cond.code yJ3_checkFromToIndex_8c36e cJ3_checkFromToIndex_8c36e 4 (some .int), Cond.methodLink RJ2 244 yJ2_indexOfCharUnsafe_4cfef, Cond.static yJ2_indexOfCharUnsafe_4cfef, Cond.code yJ2_indexOfCharUnsafe_4cfef cJ2_indexOfCharUnsafe_4cfef 5 (some .int), Cond.methodLink RJ2 71 yJ2_getChar_3b067, Cond.static yJ2_getChar_3b067, Cond.code yJ2_getChar_3b067 cJ2_getChar_3b067 2 (some .char), Cond.fieldLink RJ2 44 "java/lang/StringUTF16" "$assertionsDisabled" "Z", Cond.fieldLink RJ2 59 "java/lang/StringUTF16" "HI_BYTE_SHIFT" "I", Cond.fieldLink RJ2 63 "java/lang/StringUTF16" "LO_BYTE_SHIFT" "I", Cond.methodLink RJ2 232 yJ2_indexOfSupplementary_4cfef, Cond.static yJ2_indexOfSupplementary_4cfef, Cond.code yJ2_indexOfSupplementary_4cfef cJ2_indexOfSupplementary_4cfef 7 (some .int), Cond.methodLink RJ2 164 yJ11_isValidCodePoint_9a6ad, Cond.static yJ11_isValidCodePoint_9a6ad, Cond.initialized RJ11, Cond.code yJ11_isValidCodePoint_9a6ad cJ11_isValidCodePoint_9a6ad 2 (some .boolean)]
def wsX4_readPage_r5 : List Cond := [Cond.methodLink RJ2 157 yJ11_highSurrogate_5068e, Cond.static yJ11_highSurrogate_5068e, Cond.code yJ11_highSurrogate_5068e cJ11_highSurrogate_5068e 1 (some .char), Cond.constant RJ11 110 (55232), Cond.methodLink RJ2 161 yJ11_lowSurrogate_5068e, Cond.static yJ11_lowSurrogate_5068e, Cond.code yJ11_lowSurrogate_5068e cJ11_lowSurrogate_5068e 1 (some .char), Cond.constant RJ11 76 (56320)]
def wsX4_readPage : List Cond := .code yX4_readPage cX4_readPage 5 none :: ((wsX4_readPage_r1 ++ (wsX4_readPage_r2 ++ (wsX4_readPage_r3 ++ (wsX4_readPage_r4 ++ wsX4_readPage_r5)))) ++ wsX40 ++ wsX20 ++ wsX00)
def wsX4_tower_r1 : List Cond := [Cond.fieldLink RX4 33 "CubeTower" "letters" "I", Cond.fieldLink RX4 49 "CubeTower" "towersRead" "I", Cond.fieldLink RX4 20 "CubeTower" "kept" "LCubeTower$Tower;", Cond.fieldLink RX4 52 "CubeTower$Tower" "size" "I", Cond.fieldLink RX4 55 "CubeTower" "surveyed" "Z", Cond.methodLink RX4 41 yX4_fault, Cond.instanceMethod yX4_fault, Cond.selects RX4 yX4_fault yX4_fault, Cond.initialized RX4, Cond.code yX4_fault cX4_fault 2 (some .int), Cond.fieldLink RX4 9 "CubeTower" "page" "[I", Cond.methodLink RX4 37 yX4_fits, Cond.static yX4_fits, Cond.code yX4_fits cX4_fits 3 (some .boolean), Cond.methodLink RX4 61 yJ0_indexOf_0f7a4, Cond.instanceMethod yJ0_indexOf_0f7a4, Cond.selects RJ0 yJ0_indexOf_0f7a4 yJ0_indexOf_0f7a4, Cond.initialized RJ0, Cond.code yJ0_indexOf_0f7a4 cJ0_indexOf_0f7a4 2 (some .int), Cond.methodLink RJ0 633 yJ0_indexOf_7cf53, Cond.instanceMethod yJ0_indexOf_7cf53, Cond.selects RJ0 yJ0_indexOf_7cf53 yJ0_indexOf_7cf53, Cond.code yJ0_indexOf_7cf53 cJ0_indexOf_7cf53 3 (some .int), Cond.fieldLink RJ0 9 "java/lang/String" "value" "[B"]
def wsX4_tower_r2 : List Cond := [Cond.methodLink RJ0 492 yJ0_isLatin1_aae02, Cond.instanceMethod yJ0_isLatin1_aae02, Cond.selects RJ0 yJ0_isLatin1_aae02 yJ0_isLatin1_aae02, Cond.code yJ0_isLatin1_aae02 cJ0_isLatin1_aae02 1 (some .boolean), Cond.fieldLink RJ0 38 "java/lang/String" "COMPACT_STRINGS" "Z", Cond.fieldLink RJ0 15 "java/lang/String" "coder" "B", Cond.methodLink RJ0 505 yJ0_length_8abf5, Cond.instanceMethod yJ0_length_8abf5, Cond.selects RJ0 yJ0_length_8abf5 yJ0_length_8abf5, Cond.code yJ0_length_8abf5 cJ0_length_8abf5 1 (some .int), Cond.methodLink RJ0 335 yJ0_coder_7d493, Cond.instanceMethod yJ0_coder_7d493, Cond.selects RJ0 yJ0_coder_7d493 yJ0_coder_7d493, Cond.code yJ0_coder_7d493 cJ0_coder_7d493 1 (some .byte), Cond.methodLink RJ0 637 yJ1_indexOf_4cfef, Cond.static yJ1_indexOf_4cfef, Cond.initialized RJ1, Cond.code yJ1_indexOf_4cfef cJ1_indexOf_4cfef 4 (some .int), Cond.methodLink RJ1 92 Lib.Math.max.name, Cond.static Lib.Math.max.name, Cond.initialized "java/lang/Math", Cond.code Lib.Math.max.name Lib.Math.max.code 2 (some .int), Cond.methodLink RJ1 38 Lib.Math.min.name, Cond.static Lib.Math.min.name]
def wsX4_tower_r3 : List Cond := [Cond.code Lib.Math.min.name Lib.Math.min.code 2 (some .int), Cond.methodLink RJ1 88 yJ1_canEncode_9a6ad, Cond.static yJ1_canEncode_9a6ad, Cond.code yJ1_canEncode_9a6ad cJ1_canEncode_9a6ad 1 (some .boolean), Cond.methodLink RJ1 95 yJ1_indexOfChar_4cfef, Cond.static yJ1_indexOfChar_4cfef, Cond.code yJ1_indexOfChar_4cfef cJ1_indexOfChar_4cfef 6 (some .int), Cond.methodLink RJ0 640 yJ2_indexOf_4cfef, Cond.static yJ2_indexOf_4cfef, Cond.initialized RJ2, Cond.code yJ2_indexOf_4cfef cJ2_indexOf_4cfef 4 (some .int), Cond.methodLink RJ2 224 Lib.Math.max.name, Cond.methodLink RJ2 183 Lib.Math.min.name, Cond.constant RJ2 227 (65536), Cond.methodLink RJ2 228 yJ2_indexOfChar_4cfef, Cond.static yJ2_indexOfChar_4cfef, Cond.code yJ2_indexOfChar_4cfef cJ2_indexOfChar_4cfef 4 (some .int), Cond.methodLink RJ2 96 yJ2_checkBoundsBeginEnd_d044e, Cond.static yJ2_checkBoundsBeginEnd_d044e, Cond.code yJ2_checkBoundsBeginEnd_d044e cJ2_checkBoundsBeginEnd_d044e 3 none, Cond.methodLink RJ2 48 yJ2_length_9d52b, Cond.static yJ2_length_9d52b, Cond.code yJ2_length_9d52b cJ2_length_9d52b 1 (some .int), Cond.methodLink RJ2 241 yJ0_checkBoundsBeginEnd_23922]
def wsX4_tower_r4 : List Cond := [Cond.static yJ0_checkBoundsBeginEnd_23922, Cond.code yJ0_checkBoundsBeginEnd_23922 cJ0_checkBoundsBeginEnd_23922 3 none, Cond.fieldLink RJ0 1053 "jdk/internal/util/Preconditions" "SIOOBE_FORMATTER" "Ljava/util/function/BiFunction;", Cond.methodLink RJ0 1062 yJ3_checkFromToIndex_8c36e, Cond.static yJ3_checkFromToIndex_8c36e, Cond.initialized RJ3, Cond.code yJ3_checkFromToIndex_8c36e cJ3_checkFromToIndex_8c36e 4 (some .int), Cond.methodLink RJ2 244 yJ2_indexOfCharUnsafe_4cfef, Cond.static yJ2_indexOfCharUnsafe_4cfef, Cond.code yJ2_indexOfCharUnsafe_4cfef cJ2_indexOfCharUnsafe_4cfef 5 (some .int), Cond.methodLink RJ2 71 yJ2_getChar_3b067, Cond.static yJ2_getChar_3b067, Cond.code yJ2_getChar_3b067 cJ2_getChar_3b067 2 (some .char), Cond.fieldLink RJ2 44 "java/lang/StringUTF16" "$assertionsDisabled" "Z", Cond.fieldLink RJ2 59 "java/lang/StringUTF16" "HI_BYTE_SHIFT" "I", Cond.fieldLink RJ2 63 "java/lang/StringUTF16" "LO_BYTE_SHIFT" "I", Cond.methodLink RJ2 232 yJ2_indexOfSupplementary_4cfef, Cond.static yJ2_indexOfSupplementary_4cfef, Cond.code yJ2_indexOfSupplementary_4cfef cJ2_indexOfSupplementary_4cfef 7 (some .int), Cond.methodLink RJ2 164 yJ11_isValidCodePoint_9a6ad, Cond.static yJ11_isValidCodePoint_9a6ad, Cond.initialized RJ11, Cond.code yJ11_isValidCodePoint_9a6ad cJ11_isValidCodePoint_9a6ad 2 (some .boolean), Cond.methodLink RJ2 157 yJ11_highSurrogate_5068e]
def wsX4_tower_r5 : List Cond := [Cond.static yJ11_highSurrogate_5068e, Cond.code yJ11_highSurrogate_5068e cJ11_highSurrogate_5068e 1 (some .char), Cond.constant RJ11 110 (55232), Cond.methodLink RJ2 161 yJ11_lowSurrogate_5068e, Cond.static yJ11_lowSurrogate_5068e, Cond.code yJ11_lowSurrogate_5068e cJ11_lowSurrogate_5068e 1 (some .char), Cond.constant RJ11 76 (56320), Cond.methodLink RX4 45 yX4_readPage, Cond.instanceMethod yX4_readPage, Cond.selects RX4 yX4_readPage yX4_readPage, Cond.code yX4_readPage cX4_readPage 5 none, Cond.fieldLink RX4 16 "CubeTower" "now" "LCubeTower$Tower;", Cond.fieldLink RX4 67 "CubeTower$Tower" "turns" "I", Cond.fieldLink RX4 73 "CubeTower$Tower" "cubes" "[LCubeTower$Cube;", Cond.fieldLink RX4 77 "CubeTower$Cube" "kind" "I", Cond.fieldLink RX4 82 "CubeTower$Cube" "colours" "[I", Cond.methodLink RX4 70 yX2_forgetAll, Cond.instanceMethod yX2_forgetAll, Cond.selects RX2 yX2_forgetAll yX2_forgetAll, Cond.initialized RX2, Cond.code yX2_forgetAll cX2_forgetAll 2 none, Cond.fieldLink RX2 25 "CubeTower$Tower" "seen" "I", Cond.fieldLink RX2 12 "CubeTower$Tower" "cubes" "[LCubeTower$Cube;", Cond.fieldLink RX2 32 "CubeTower$Cube" "sorts" "I"]
def wsX4_tower : List Cond := .code yX4_tower cX4_tower 3 (some .int) :: ((wsX4_tower_r1 ++ (wsX4_tower_r2 ++ (wsX4_tower_r3 ++ (wsX4_tower_r4 ++ wsX4_tower_r5)))) ++ wsX40 ++ wsX20 ++ wsX00)
def wsX4_nextQuestion : List Cond := .code yX4_nextQuestion cX4_nextQuestion 7 (some .int) :: ([.fieldLink RX4 111 "CubeTower" "KINDS_THAT_COULD" "[I", .methodLink RX4 119 Lib.Math.max.name, .static Lib.Math.max.name, .initialized "java/lang/Math", .code Lib.Math.max.name Lib.Math.max.code 2 (some .int), .methodLink RX4 114 yJ6_bitCount_0f7a4, .static yJ6_bitCount_0f7a4, .initialized RJ6, .code yJ6_bitCount_0f7a4 cJ6_bitCount_0f7a4 1 (some .int), .constant RJ6 265 (1431655765), .constant RJ6 266 (858993459), .constant RJ6 267 (252645135)])
def wsX4_cube_r1 : List Cond := [Cond.fieldLink RX4 16 "CubeTower" "now" "LCubeTower$Tower;", Cond.fieldLink RX4 73 "CubeTower$Tower" "cubes" "[LCubeTower$Cube;", Cond.fieldLink RX4 82 "CubeTower$Cube" "colours" "[I", Cond.fieldLink RX4 77 "CubeTower$Cube" "kind" "I", Cond.fieldLink RX4 29 "CubeTower" "survey" "LCubeTower$Survey;", Cond.fieldLink RX4 89 "CubeTower$Survey" "waysOfKind" "[LCubeTower$Ways;", Cond.fieldLink RX4 93 "CubeTower$Ways" "size" "I", Cond.fieldLink RX4 96 "CubeTower$Cube" "sorts" "I", Cond.fieldLink RX4 102 "CubeTower" "TURNS_OF_KIND" "[I", Cond.methodLink RX4 85 yX2_has, Cond.instanceMethod yX2_has, Cond.selects RX2 yX2_has yX2_has, Cond.initialized RX2, Cond.code yX2_has cX2_has 2 (some .boolean), Cond.fieldLink RX2 18 "CubeTower$Tower" "size" "I", Cond.methodLink RX4 99 yX4_nextQuestion, Cond.static yX4_nextQuestion, Cond.initialized RX4, Cond.code yX4_nextQuestion cX4_nextQuestion 7 (some .int), Cond.fieldLink RX4 111 "CubeTower" "KINDS_THAT_COULD" "[I", Cond.methodLink RX4 119 Lib.Math.max.name, Cond.static Lib.Math.max.name, Cond.initialized "java/lang/Math", Cond.code Lib.Math.max.name Lib.Math.max.code 2 (some .int)]
def wsX4_cube_r2 : List Cond := [Cond.methodLink RX4 114 yJ6_bitCount_0f7a4, Cond.static yJ6_bitCount_0f7a4, Cond.initialized RJ6, Cond.code yJ6_bitCount_0f7a4 cJ6_bitCount_0f7a4 1 (some .int), Cond.constant RJ6 265 (1431655765), Cond.constant RJ6 266 (858993459), Cond.constant RJ6 267 (252645135)]
def wsX4_cube : List Cond := .code yX4_cube cX4_cube 4 (some .int) :: ((wsX4_cube_r1 ++ wsX4_cube_r2) ++ wsX40 ++ wsX20 ++ wsX00 ++ wsX10 ++ wsX30)
def wsX4_as : List Cond := .code yX4_as cX4_as 3 (some .int) :: ([.fieldLink RX4 16 "CubeTower" "now" "LCubeTower$Tower;", .fieldLink RX4 105 "CubeTower" "KINDS_OF_KIND" "[I", .fieldLink RX4 73 "CubeTower$Tower" "cubes" "[LCubeTower$Cube;", .fieldLink RX4 77 "CubeTower$Cube" "kind" "I", .methodLink RX4 85 yX2_has, .instanceMethod yX2_has, .selects RX2 yX2_has yX2_has, .initialized RX2, .code yX2_has cX2_has 2 (some .boolean), .fieldLink RX2 18 "CubeTower$Tower" "size" "I"] ++ wsX40 ++ wsX20 ++ wsX00)
def wsX4_wall : List Cond := .code yX4_wall cX4_wall 4 (some .int) :: ([.fieldLink RX4 16 "CubeTower" "now" "LCubeTower$Tower;", .fieldLink RX4 52 "CubeTower$Tower" "size" "I", .methodLink RX4 108 yX2_clashesOn, .instanceMethod yX2_clashesOn, .selects RX2 yX2_clashesOn yX2_clashesOn, .initialized RX2, .code yX2_clashesOn cX2_clashesOn 6 (some .int), .fieldLink RX2 18 "CubeTower$Tower" "size" "I", .fieldLink RX2 12 "CubeTower$Tower" "cubes" "[LCubeTower$Cube;", .fieldLink RX2 35 "CubeTower$Cube" "colours" "[I"] ++ wsX40 ++ wsX20 ++ wsX00)
def wsX4_turn_r1 : List Cond := [Cond.fieldLink RX4 16 "CubeTower" "now" "LCubeTower$Tower;", Cond.fieldLink RX4 73 "CubeTower$Tower" "cubes" "[LCubeTower$Cube;", Cond.fieldLink RX4 77 "CubeTower$Cube" "kind" "I", Cond.fieldLink RX4 67 "CubeTower$Tower" "turns" "I", Cond.fieldLink RX4 55 "CubeTower" "surveyed" "Z", Cond.methodLink RX4 85 yX2_has, Cond.instanceMethod yX2_has, Cond.selects RX2 yX2_has yX2_has, Cond.initialized RX2, Cond.code yX2_has cX2_has 2 (some .boolean), Cond.fieldLink RX2 18 "CubeTower$Tower" "size" "I", Cond.methodLink RX4 125 yX4_canTurn, Cond.static yX4_canTurn, Cond.initialized RX4, Cond.code yX4_canTurn cX4_canTurn 2 (some .boolean), Cond.fieldLink RX4 102 "CubeTower" "TURNS_OF_KIND" "[I", Cond.methodLink RX4 128 yX0_turnOver, Cond.instanceMethod yX0_turnOver, Cond.selects RX0 yX0_turnOver yX0_turnOver, Cond.initialized RX0, Cond.code yX0_turnOver cX0_turnOver 2 none, Cond.fieldLink RX0 15 "CubeTower$Cube" "colours" "[I", Cond.fieldLink RX0 19 "CubeTower$Cube" "kind" "I", Cond.static yX4_turnRow]
def wsX4_turn_r2 : List Cond := [Cond.code yX4_turnRow cX4_turnRow 10 none, Cond.fieldLink RX4 134 "CubeTower" "RINGS" "[I", Cond.methodLink RX4 131 yX2_clashes, Cond.instanceMethod yX2_clashes, Cond.selects RX2 yX2_clashes yX2_clashes, Cond.code yX2_clashes cX2_clashes 3 (some .int), Cond.methodLink RX2 39 yX2_clashesOn, Cond.instanceMethod yX2_clashesOn, Cond.selects RX2 yX2_clashesOn yX2_clashesOn, Cond.code yX2_clashesOn cX2_clashesOn 6 (some .int), Cond.fieldLink RX2 12 "CubeTower$Tower" "cubes" "[LCubeTower$Cube;", Cond.fieldLink RX2 35 "CubeTower$Cube" "colours" "[I"]
def wsX4_turn : List Cond := .code yX4_turn cX4_turn 3 (some .int) :: ((wsX4_turn_r1 ++ wsX4_turn_r2) ++ wsX40 ++ wsX20 ++ wsX00)
def wsX4_paint : List Cond := .code yX4_paint cX4_paint 5 (some .int) :: ([.fieldLink RX4 16 "CubeTower" "now" "LCubeTower$Tower;", .fieldLink RX4 73 "CubeTower$Tower" "cubes" "[LCubeTower$Cube;", .fieldLink RX4 82 "CubeTower$Cube" "colours" "[I", .fieldLink RX4 55 "CubeTower" "surveyed" "Z", .methodLink RX4 85 yX2_has, .instanceMethod yX2_has, .selects RX2 yX2_has yX2_has, .initialized RX2, .code yX2_has cX2_has 2 (some .boolean), .fieldLink RX2 18 "CubeTower$Tower" "size" "I"] ++ wsX40 ++ wsX20 ++ wsX00)
def wsX4_swap : List Cond := .code yX4_swap cX4_swap 4 (some .int) :: ([.fieldLink RX4 16 "CubeTower" "now" "LCubeTower$Tower;", .fieldLink RX4 73 "CubeTower$Tower" "cubes" "[LCubeTower$Cube;", .fieldLink RX4 55 "CubeTower" "surveyed" "Z", .methodLink RX4 85 yX2_has, .instanceMethod yX2_has, .selects RX2 yX2_has yX2_has, .initialized RX2, .code yX2_has cX2_has 2 (some .boolean), .fieldLink RX2 18 "CubeTower$Tower" "size" "I", .methodLink RX4 131 yX2_clashes, .instanceMethod yX2_clashes, .selects RX2 yX2_clashes yX2_clashes, .code yX2_clashes cX2_clashes 3 (some .int), .methodLink RX2 39 yX2_clashesOn, .instanceMethod yX2_clashesOn, .selects RX2 yX2_clashesOn yX2_clashesOn, .code yX2_clashesOn cX2_clashesOn 6 (some .int), .fieldLink RX2 12 "CubeTower$Tower" "cubes" "[LCubeTower$Cube;", .fieldLink RX2 35 "CubeTower$Cube" "colours" "[I"] ++ wsX40 ++ wsX20 ++ wsX00)
def wsX4_be : List Cond := .code yX4_be cX4_be 4 (some .int) :: ([.fieldLink RX4 16 "CubeTower" "now" "LCubeTower$Tower;", .fieldLink RX4 73 "CubeTower$Tower" "cubes" "[LCubeTower$Cube;", .fieldLink RX4 77 "CubeTower$Cube" "kind" "I", .fieldLink RX4 55 "CubeTower" "surveyed" "Z", .methodLink RX4 85 yX2_has, .instanceMethod yX2_has, .selects RX2 yX2_has yX2_has, .initialized RX2, .code yX2_has cX2_has 2 (some .boolean), .fieldLink RX2 18 "CubeTower$Tower" "size" "I"] ++ wsX40 ++ wsX20 ++ wsX00)
def wsX4_lookAround_r1 : List Cond := [Cond.fieldLink RX4 55 "CubeTower" "surveyed" "Z", Cond.fieldLink RX4 29 "CubeTower" "survey" "LCubeTower$Survey;", Cond.fieldLink RX4 16 "CubeTower" "now" "LCubeTower$Tower;", Cond.methodLink RX4 164 yX1_look, Cond.instanceMethod yX1_look, Cond.selects RX1 yX1_look yX1_look, Cond.initialized RX1, Cond.code yX1_look cX1_look 5 none, Cond.fieldLink RX1 36 "CubeTower$Survey" "solutions" "I", Cond.fieldLink RX1 40 "CubeTower$Survey" "fewestTurns" "I", Cond.fieldLink RX1 43 "CubeTower$Survey" "firstTurns" "I", Cond.constant RX1 48 (2147483647), Cond.fieldLink RX1 49 "CubeTower$Survey" "least" "I", Cond.fieldLink RX1 20 "CubeTower$Survey" "waysOfCube" "[LCubeTower$Ways;", Cond.fieldLink RX1 52 "CubeTower$Ways" "size" "I", Cond.fieldLink RX1 25 "CubeTower$Survey" "walls" "[[I", Cond.methodLink RX1 32 yX1_layOut, Cond.instanceMethod yX1_layOut, Cond.selects RX1 yX1_layOut yX1_layOut, Cond.code yX1_layOut cX1_layOut 7 none, Cond.fieldLink RX1 69 "CubeTower$Tower" "cubes" "[LCubeTower$Cube;", Cond.fieldLink RX1 14 "CubeTower$Survey" "waysOfKind" "[LCubeTower$Ways;", Cond.fieldLink RX1 73 "CubeTower$Cube" "kind" "I", Cond.methodLink RX1 63 yX2_has]
def wsX4_lookAround_r2 : List Cond := [Cond.instanceMethod yX2_has, Cond.selects RX2 yX2_has yX2_has, Cond.initialized RX2, Cond.code yX2_has cX2_has 2 (some .boolean), Cond.fieldLink RX2 18 "CubeTower$Tower" "size" "I", Cond.methodLink RX1 78 yX1_wallsOf, Cond.static yX1_wallsOf, Cond.code yX1_wallsOf cX1_wallsOf 6 (some .int), Cond.fieldLink RX1 82 "CubeTower$Ways" "sideAt" "[I", Cond.fieldLink RX1 85 "CubeTower$Cube" "colours" "[I", Cond.methodLink RX1 55 yJ6_bitCount_0f7a4, Cond.static yJ6_bitCount_0f7a4, Cond.initialized RJ6, Cond.code yJ6_bitCount_0f7a4 cJ6_bitCount_0f7a4 1 (some .int), Cond.constant RJ6 265 (1431655765), Cond.constant RJ6 266 (858993459), Cond.constant RJ6 267 (252645135), Cond.methodLink RX1 59 yX1_tryThird, Cond.instanceMethod yX1_tryThird, Cond.selects RX1 yX1_tryThird yX1_tryThird, Cond.code yX1_tryThird cX1_tryThird 9 none, Cond.methodLink RX1 88 Lib.Math.min.name, Cond.static Lib.Math.min.name, Cond.initialized "java/lang/Math"]
def wsX4_lookAround_r3 : List Cond := [Cond.code Lib.Math.min.name Lib.Math.min.code 2 (some .int), Cond.methodLink RX1 94 yX1_addSolution, Cond.instanceMethod yX1_addSolution, Cond.selects RX1 yX1_addSolution yX1_addSolution, Cond.code yX1_addSolution cX1_addSolution 5 none, Cond.fieldLink RX1 97 "CubeTower$Ways" "turnsTo" "[I", Cond.fieldLink RX1 100 "CubeTower$Ways" "firstTurns" "[I"]
def wsX4_lookAround : List Cond := .code yX4_lookAround cX4_lookAround 1 none :: ((wsX4_lookAround_r1 ++ (wsX4_lookAround_r2 ++ wsX4_lookAround_r3)) ++ wsX40 ++ wsX10 ++ wsX30 ++ wsX20 ++ wsX00)
def wsX4_ways_r1 : List Cond := [Cond.fieldLink RX4 16 "CubeTower" "now" "LCubeTower$Tower;", Cond.fieldLink RX4 52 "CubeTower$Tower" "size" "I", Cond.fieldLink RX4 29 "CubeTower" "survey" "LCubeTower$Survey;", Cond.fieldLink RX4 140 "CubeTower$Survey" "solutions" "I", Cond.fieldLink RX4 143 "CubeTower$Survey" "least" "I", Cond.methodLink RX4 137 yX4_lookAround, Cond.instanceMethod yX4_lookAround, Cond.selects RX4 yX4_lookAround yX4_lookAround, Cond.initialized RX4, Cond.code yX4_lookAround cX4_lookAround 1 none, Cond.fieldLink RX4 55 "CubeTower" "surveyed" "Z", Cond.methodLink RX4 164 yX1_look, Cond.instanceMethod yX1_look, Cond.selects RX1 yX1_look yX1_look, Cond.initialized RX1, Cond.code yX1_look cX1_look 5 none, Cond.fieldLink RX1 36 "CubeTower$Survey" "solutions" "I", Cond.fieldLink RX1 40 "CubeTower$Survey" "fewestTurns" "I", Cond.fieldLink RX1 43 "CubeTower$Survey" "firstTurns" "I", Cond.constant RX1 48 (2147483647), Cond.fieldLink RX1 49 "CubeTower$Survey" "least" "I", Cond.fieldLink RX1 20 "CubeTower$Survey" "waysOfCube" "[LCubeTower$Ways;", Cond.fieldLink RX1 52 "CubeTower$Ways" "size" "I", Cond.fieldLink RX1 25 "CubeTower$Survey" "walls" "[[I"]
def wsX4_ways_r2 : List Cond := [Cond.methodLink RX1 32 yX1_layOut, Cond.instanceMethod yX1_layOut, Cond.selects RX1 yX1_layOut yX1_layOut, Cond.code yX1_layOut cX1_layOut 7 none, Cond.fieldLink RX1 69 "CubeTower$Tower" "cubes" "[LCubeTower$Cube;", Cond.fieldLink RX1 14 "CubeTower$Survey" "waysOfKind" "[LCubeTower$Ways;", Cond.fieldLink RX1 73 "CubeTower$Cube" "kind" "I", Cond.methodLink RX1 63 yX2_has, Cond.instanceMethod yX2_has, Cond.selects RX2 yX2_has yX2_has, Cond.initialized RX2, Cond.code yX2_has cX2_has 2 (some .boolean), Cond.fieldLink RX2 18 "CubeTower$Tower" "size" "I", Cond.methodLink RX1 78 yX1_wallsOf, Cond.static yX1_wallsOf, Cond.code yX1_wallsOf cX1_wallsOf 6 (some .int), Cond.fieldLink RX1 82 "CubeTower$Ways" "sideAt" "[I", Cond.fieldLink RX1 85 "CubeTower$Cube" "colours" "[I", Cond.methodLink RX1 55 yJ6_bitCount_0f7a4, Cond.static yJ6_bitCount_0f7a4, Cond.initialized RJ6, Cond.code yJ6_bitCount_0f7a4 cJ6_bitCount_0f7a4 1 (some .int), Cond.constant RJ6 265 (1431655765), Cond.constant RJ6 266 (858993459)]
def wsX4_ways_r3 : List Cond := [Cond.constant RJ6 267 (252645135), Cond.methodLink RX1 59 yX1_tryThird, Cond.instanceMethod yX1_tryThird, Cond.selects RX1 yX1_tryThird yX1_tryThird, Cond.code yX1_tryThird cX1_tryThird 9 none, Cond.methodLink RX1 88 Lib.Math.min.name, Cond.static Lib.Math.min.name, Cond.initialized "java/lang/Math", Cond.code Lib.Math.min.name Lib.Math.min.code 2 (some .int), Cond.methodLink RX1 94 yX1_addSolution, Cond.instanceMethod yX1_addSolution, Cond.selects RX1 yX1_addSolution yX1_addSolution, Cond.code yX1_addSolution cX1_addSolution 5 none, Cond.fieldLink RX1 97 "CubeTower$Ways" "turnsTo" "[I", Cond.fieldLink RX1 100 "CubeTower$Ways" "firstTurns" "[I"]
def wsX4_ways : List Cond := .code yX4_ways cX4_ways 2 (some .int) :: ((wsX4_ways_r1 ++ (wsX4_ways_r2 ++ wsX4_ways_r3)) ++ wsX40 ++ wsX20 ++ wsX10 ++ wsX30 ++ wsX00)
def wsX4_turning_r1 : List Cond := [Cond.fieldLink RX4 16 "CubeTower" "now" "LCubeTower$Tower;", Cond.fieldLink RX4 52 "CubeTower$Tower" "size" "I", Cond.fieldLink RX4 29 "CubeTower" "survey" "LCubeTower$Survey;", Cond.fieldLink RX4 140 "CubeTower$Survey" "solutions" "I", Cond.fieldLink RX4 146 "CubeTower$Survey" "fewestTurns" "I", Cond.methodLink RX4 137 yX4_lookAround, Cond.instanceMethod yX4_lookAround, Cond.selects RX4 yX4_lookAround yX4_lookAround, Cond.initialized RX4, Cond.code yX4_lookAround cX4_lookAround 1 none, Cond.fieldLink RX4 55 "CubeTower" "surveyed" "Z", Cond.methodLink RX4 164 yX1_look, Cond.instanceMethod yX1_look, Cond.selects RX1 yX1_look yX1_look, Cond.initialized RX1, Cond.code yX1_look cX1_look 5 none, Cond.fieldLink RX1 36 "CubeTower$Survey" "solutions" "I", Cond.fieldLink RX1 40 "CubeTower$Survey" "fewestTurns" "I", Cond.fieldLink RX1 43 "CubeTower$Survey" "firstTurns" "I", Cond.constant RX1 48 (2147483647), Cond.fieldLink RX1 49 "CubeTower$Survey" "least" "I", Cond.fieldLink RX1 20 "CubeTower$Survey" "waysOfCube" "[LCubeTower$Ways;", Cond.fieldLink RX1 52 "CubeTower$Ways" "size" "I", Cond.fieldLink RX1 25 "CubeTower$Survey" "walls" "[[I"]
def wsX4_turning_r2 : List Cond := [Cond.methodLink RX1 32 yX1_layOut, Cond.instanceMethod yX1_layOut, Cond.selects RX1 yX1_layOut yX1_layOut, Cond.code yX1_layOut cX1_layOut 7 none, Cond.fieldLink RX1 69 "CubeTower$Tower" "cubes" "[LCubeTower$Cube;", Cond.fieldLink RX1 14 "CubeTower$Survey" "waysOfKind" "[LCubeTower$Ways;", Cond.fieldLink RX1 73 "CubeTower$Cube" "kind" "I", Cond.methodLink RX1 63 yX2_has, Cond.instanceMethod yX2_has, Cond.selects RX2 yX2_has yX2_has, Cond.initialized RX2, Cond.code yX2_has cX2_has 2 (some .boolean), Cond.fieldLink RX2 18 "CubeTower$Tower" "size" "I", Cond.methodLink RX1 78 yX1_wallsOf, Cond.static yX1_wallsOf, Cond.code yX1_wallsOf cX1_wallsOf 6 (some .int), Cond.fieldLink RX1 82 "CubeTower$Ways" "sideAt" "[I", Cond.fieldLink RX1 85 "CubeTower$Cube" "colours" "[I", Cond.methodLink RX1 55 yJ6_bitCount_0f7a4, Cond.static yJ6_bitCount_0f7a4, Cond.initialized RJ6, Cond.code yJ6_bitCount_0f7a4 cJ6_bitCount_0f7a4 1 (some .int), Cond.constant RJ6 265 (1431655765), Cond.constant RJ6 266 (858993459)]
def wsX4_turning_r3 : List Cond := [Cond.constant RJ6 267 (252645135), Cond.methodLink RX1 59 yX1_tryThird, Cond.instanceMethod yX1_tryThird, Cond.selects RX1 yX1_tryThird yX1_tryThird, Cond.code yX1_tryThird cX1_tryThird 9 none, Cond.methodLink RX1 88 Lib.Math.min.name, Cond.static Lib.Math.min.name, Cond.initialized "java/lang/Math", Cond.code Lib.Math.min.name Lib.Math.min.code 2 (some .int), Cond.methodLink RX1 94 yX1_addSolution, Cond.instanceMethod yX1_addSolution, Cond.selects RX1 yX1_addSolution yX1_addSolution, Cond.code yX1_addSolution cX1_addSolution 5 none, Cond.fieldLink RX1 97 "CubeTower$Ways" "turnsTo" "[I", Cond.fieldLink RX1 100 "CubeTower$Ways" "firstTurns" "[I", Cond.methodLink RX4 149 yX1_firstTurn, Cond.instanceMethod yX1_firstTurn, Cond.selects RX1 yX1_firstTurn yX1_firstTurn, Cond.code yX1_firstTurn cX1_firstTurn 2 (some .int), Cond.methodLink RX1 102 yJ6_numberOfTrailingZeros_0f7a4, Cond.static yJ6_numberOfTrailingZeros_0f7a4, Cond.code yJ6_numberOfTrailingZeros_0f7a4 cJ6_numberOfTrailingZeros_0f7a4 2 (some .int), Cond.constant RJ6 264 (65536)]
def wsX4_turning : List Cond := .code yX4_turning cX4_turning 2 (some .int) :: ((wsX4_turning_r1 ++ (wsX4_turning_r2 ++ wsX4_turning_r3)) ++ wsX40 ++ wsX20 ++ wsX10 ++ wsX30 ++ wsX00)
def wsX4_repaint_r1 : List Cond := [Cond.fieldLink RX4 16 "CubeTower" "now" "LCubeTower$Tower;", Cond.fieldLink RX4 52 "CubeTower$Tower" "size" "I", Cond.fieldLink RX4 152 "CubeTower" "repaints" "I", Cond.fieldLink RX4 29 "CubeTower" "survey" "LCubeTower$Survey;", Cond.fieldLink RX4 140 "CubeTower$Survey" "solutions" "I", Cond.methodLink RX4 137 yX4_lookAround, Cond.instanceMethod yX4_lookAround, Cond.selects RX4 yX4_lookAround yX4_lookAround, Cond.initialized RX4, Cond.code yX4_lookAround cX4_lookAround 1 none, Cond.fieldLink RX4 55 "CubeTower" "surveyed" "Z", Cond.methodLink RX4 164 yX1_look, Cond.instanceMethod yX1_look, Cond.selects RX1 yX1_look yX1_look, Cond.initialized RX1, Cond.code yX1_look cX1_look 5 none, Cond.fieldLink RX1 36 "CubeTower$Survey" "solutions" "I", Cond.fieldLink RX1 40 "CubeTower$Survey" "fewestTurns" "I", Cond.fieldLink RX1 43 "CubeTower$Survey" "firstTurns" "I", Cond.constant RX1 48 (2147483647), Cond.fieldLink RX1 49 "CubeTower$Survey" "least" "I", Cond.fieldLink RX1 20 "CubeTower$Survey" "waysOfCube" "[LCubeTower$Ways;", Cond.fieldLink RX1 52 "CubeTower$Ways" "size" "I", Cond.fieldLink RX1 25 "CubeTower$Survey" "walls" "[[I"]
def wsX4_repaint_r2 : List Cond := [Cond.methodLink RX1 32 yX1_layOut, Cond.instanceMethod yX1_layOut, Cond.selects RX1 yX1_layOut yX1_layOut, Cond.code yX1_layOut cX1_layOut 7 none, Cond.fieldLink RX1 69 "CubeTower$Tower" "cubes" "[LCubeTower$Cube;", Cond.fieldLink RX1 14 "CubeTower$Survey" "waysOfKind" "[LCubeTower$Ways;", Cond.fieldLink RX1 73 "CubeTower$Cube" "kind" "I", Cond.methodLink RX1 63 yX2_has, Cond.instanceMethod yX2_has, Cond.selects RX2 yX2_has yX2_has, Cond.initialized RX2, Cond.code yX2_has cX2_has 2 (some .boolean), Cond.fieldLink RX2 18 "CubeTower$Tower" "size" "I", Cond.methodLink RX1 78 yX1_wallsOf, Cond.static yX1_wallsOf, Cond.code yX1_wallsOf cX1_wallsOf 6 (some .int), Cond.fieldLink RX1 82 "CubeTower$Ways" "sideAt" "[I", Cond.fieldLink RX1 85 "CubeTower$Cube" "colours" "[I", Cond.methodLink RX1 55 yJ6_bitCount_0f7a4, Cond.static yJ6_bitCount_0f7a4, Cond.initialized RJ6, Cond.code yJ6_bitCount_0f7a4 cJ6_bitCount_0f7a4 1 (some .int), Cond.constant RJ6 265 (1431655765), Cond.constant RJ6 266 (858993459)]
def wsX4_repaint_r3 : List Cond := [Cond.constant RJ6 267 (252645135), Cond.methodLink RX1 59 yX1_tryThird, Cond.instanceMethod yX1_tryThird, Cond.selects RX1 yX1_tryThird yX1_tryThird, Cond.code yX1_tryThird cX1_tryThird 9 none, Cond.methodLink RX1 88 Lib.Math.min.name, Cond.static Lib.Math.min.name, Cond.initialized "java/lang/Math", Cond.code Lib.Math.min.name Lib.Math.min.code 2 (some .int), Cond.methodLink RX1 94 yX1_addSolution, Cond.instanceMethod yX1_addSolution, Cond.selects RX1 yX1_addSolution yX1_addSolution, Cond.code yX1_addSolution cX1_addSolution 5 none, Cond.fieldLink RX1 97 "CubeTower$Ways" "turnsTo" "[I", Cond.fieldLink RX1 100 "CubeTower$Ways" "firstTurns" "[I", Cond.methodLink RX4 155 yX1_sideToPaint, Cond.instanceMethod yX1_sideToPaint, Cond.selects RX1 yX1_sideToPaint yX1_sideToPaint, Cond.code yX1_sideToPaint cX1_sideToPaint 5 (some .int), Cond.methodLink RX1 105 yX1_pairOthers, Cond.instanceMethod yX1_pairOthers, Cond.selects RX1 yX1_pairOthers yX1_pairOthers, Cond.code yX1_pairOthers cX1_pairOthers 8 none, Cond.fieldLink RX1 111 "CubeTower$Survey" "pairCount" "I"]
def wsX4_repaint_r4 : List Cond := [Cond.fieldLink RX1 28 "CubeTower$Survey" "pairs" "[I", Cond.methodLink RX1 108 yX1_helpfulColours, Cond.instanceMethod yX1_helpfulColours, Cond.selects RX1 yX1_helpfulColours yX1_helpfulColours, Cond.code yX1_helpfulColours cX1_helpfulColours 6 (some .int), Cond.methodLink RX1 114 yX3_placeOf, Cond.instanceMethod yX3_placeOf, Cond.selects RX3 yX3_placeOf yX3_placeOf, Cond.initialized RX3, Cond.code yX3_placeOf cX3_placeOf 4 (some .int), Cond.fieldLink RX3 15 "CubeTower$Ways" "sideAt" "[I", Cond.methodLink RX1 117 yX1_coloursFree, Cond.instanceMethod yX1_coloursFree, Cond.selects RX1 yX1_coloursFree yX1_coloursFree, Cond.code yX1_coloursFree cX1_coloursFree 6 (some .int), Cond.methodLink RX1 102 yJ6_numberOfTrailingZeros_0f7a4, Cond.static yJ6_numberOfTrailingZeros_0f7a4, Cond.code yJ6_numberOfTrailingZeros_0f7a4 cJ6_numberOfTrailingZeros_0f7a4 2 (some .int), Cond.constant RJ6 264 (65536)]
def wsX4_repaint : List Cond := .code yX4_repaint cX4_repaint 1 (some .int) :: ((wsX4_repaint_r1 ++ (wsX4_repaint_r2 ++ (wsX4_repaint_r3 ++ wsX4_repaint_r4))) ++ wsX40 ++ wsX20 ++ wsX10 ++ wsX30 ++ wsX00)
def wsX4_commonDivisor : List Cond := .code yX4_commonDivisor cX4_commonDivisor 6 (some .int) :: ([])
def wsX4_odds_r1 : List Cond := [Cond.fieldLink RX4 16 "CubeTower" "now" "LCubeTower$Tower;", Cond.fieldLink RX4 52 "CubeTower$Tower" "size" "I", Cond.fieldLink RX4 29 "CubeTower" "survey" "LCubeTower$Survey;", Cond.fieldLink RX4 140 "CubeTower$Survey" "solutions" "I", Cond.methodLink RX4 137 yX4_lookAround, Cond.instanceMethod yX4_lookAround, Cond.selects RX4 yX4_lookAround yX4_lookAround, Cond.initialized RX4, Cond.code yX4_lookAround cX4_lookAround 1 none, Cond.fieldLink RX4 55 "CubeTower" "surveyed" "Z", Cond.methodLink RX4 164 yX1_look, Cond.instanceMethod yX1_look, Cond.selects RX1 yX1_look yX1_look, Cond.initialized RX1, Cond.code yX1_look cX1_look 5 none, Cond.fieldLink RX1 36 "CubeTower$Survey" "solutions" "I", Cond.fieldLink RX1 40 "CubeTower$Survey" "fewestTurns" "I", Cond.fieldLink RX1 43 "CubeTower$Survey" "firstTurns" "I", Cond.constant RX1 48 (2147483647), Cond.fieldLink RX1 49 "CubeTower$Survey" "least" "I", Cond.fieldLink RX1 20 "CubeTower$Survey" "waysOfCube" "[LCubeTower$Ways;", Cond.fieldLink RX1 52 "CubeTower$Ways" "size" "I", Cond.fieldLink RX1 25 "CubeTower$Survey" "walls" "[[I", Cond.methodLink RX1 32 yX1_layOut]
def wsX4_odds_r2 : List Cond := [Cond.instanceMethod yX1_layOut, Cond.selects RX1 yX1_layOut yX1_layOut, Cond.code yX1_layOut cX1_layOut 7 none, Cond.fieldLink RX1 69 "CubeTower$Tower" "cubes" "[LCubeTower$Cube;", Cond.fieldLink RX1 14 "CubeTower$Survey" "waysOfKind" "[LCubeTower$Ways;", Cond.fieldLink RX1 73 "CubeTower$Cube" "kind" "I", Cond.methodLink RX1 63 yX2_has, Cond.instanceMethod yX2_has, Cond.selects RX2 yX2_has yX2_has, Cond.initialized RX2, Cond.code yX2_has cX2_has 2 (some .boolean), Cond.fieldLink RX2 18 "CubeTower$Tower" "size" "I", Cond.methodLink RX1 78 yX1_wallsOf, Cond.static yX1_wallsOf, Cond.code yX1_wallsOf cX1_wallsOf 6 (some .int), Cond.fieldLink RX1 82 "CubeTower$Ways" "sideAt" "[I", Cond.fieldLink RX1 85 "CubeTower$Cube" "colours" "[I", Cond.methodLink RX1 55 yJ6_bitCount_0f7a4, Cond.static yJ6_bitCount_0f7a4, Cond.initialized RJ6, Cond.code yJ6_bitCount_0f7a4 cJ6_bitCount_0f7a4 1 (some .int), Cond.constant RJ6 265 (1431655765), Cond.constant RJ6 266 (858993459), Cond.constant RJ6 267 (252645135)]
def wsX4_odds_r3 : List Cond := [Cond.methodLink RX1 59 yX1_tryThird, Cond.instanceMethod yX1_tryThird, Cond.selects RX1 yX1_tryThird yX1_tryThird, Cond.code yX1_tryThird cX1_tryThird 9 none, Cond.methodLink RX1 88 Lib.Math.min.name, Cond.static Lib.Math.min.name, Cond.initialized "java/lang/Math", Cond.code Lib.Math.min.name Lib.Math.min.code 2 (some .int), Cond.methodLink RX1 94 yX1_addSolution, Cond.instanceMethod yX1_addSolution, Cond.selects RX1 yX1_addSolution yX1_addSolution, Cond.code yX1_addSolution cX1_addSolution 5 none, Cond.fieldLink RX1 97 "CubeTower$Ways" "turnsTo" "[I", Cond.fieldLink RX1 100 "CubeTower$Ways" "firstTurns" "[I", Cond.methodLink RX4 158 yX1_allWays, Cond.instanceMethod yX1_allWays, Cond.selects RX1 yX1_allWays yX1_allWays, Cond.code yX1_allWays cX1_allWays 1 (some .int), Cond.methodLink RX4 161 yX4_commonDivisor, Cond.static yX4_commonDivisor, Cond.code yX4_commonDivisor cX4_commonDivisor 6 (some .int)]
def wsX4_odds : List Cond := .code yX4_odds cX4_odds 5 (some .int) :: ((wsX4_odds_r1 ++ (wsX4_odds_r2 ++ wsX4_odds_r3)) ++ wsX40 ++ wsX20 ++ wsX10 ++ wsX30 ++ wsX00)
def wsX4_see : List Cond := .code yX4_see cX4_see 5 (some .int) :: ([.fieldLink RX4 16 "CubeTower" "now" "LCubeTower$Tower;", .fieldLink RX4 168 "CubeTower$Tower" "seen" "I", .fieldLink RX4 111 "CubeTower" "KINDS_THAT_COULD" "[I", .fieldLink RX4 73 "CubeTower$Tower" "cubes" "[LCubeTower$Cube;", .fieldLink RX4 96 "CubeTower$Cube" "sorts" "I", .methodLink RX4 85 yX2_has, .instanceMethod yX2_has, .selects RX2 yX2_has yX2_has, .initialized RX2, .code yX2_has cX2_has 2 (some .boolean), .fieldLink RX2 18 "CubeTower$Tower" "size" "I"] ++ wsX40 ++ wsX20 ++ wsX00)
def wsX4_forget : List Cond := .code yX4_forget cX4_forget 2 (some .int) :: ([.fieldLink RX4 16 "CubeTower" "now" "LCubeTower$Tower;", .fieldLink RX4 168 "CubeTower$Tower" "seen" "I", .methodLink RX4 70 yX2_forgetAll, .instanceMethod yX2_forgetAll, .selects RX2 yX2_forgetAll yX2_forgetAll, .initialized RX2, .code yX2_forgetAll cX2_forgetAll 2 none, .fieldLink RX2 25 "CubeTower$Tower" "seen" "I", .fieldLink RX2 12 "CubeTower$Tower" "cubes" "[LCubeTower$Cube;", .fieldLink RX2 32 "CubeTower$Cube" "sorts" "I"] ++ wsX40 ++ wsX20 ++ wsX00)
def wsX4_nextSeed : List Cond := .code yX4_nextSeed cX4_nextSeed 1 (some .int) :: ([.constantLong RX4 180 (1103515245), .constantLong RX4 182 (12345), .constantLong RX4 184 (2147483647)])
def wsX4_draw : List Cond := .code yX4_draw cX4_draw 2 (some .int) :: ([.constant RX4 186 (65536)])
def wsX4_runs_r1 : List Cond := [Cond.fieldLink RX4 16 "CubeTower" "now" "LCubeTower$Tower;", Cond.fieldLink RX4 52 "CubeTower$Tower" "size" "I", Cond.fieldLink RX4 23 "CubeTower" "trial" "LCubeTower$Tower;", Cond.fieldLink RX4 73 "CubeTower$Tower" "cubes" "[LCubeTower$Cube;", Cond.fieldLink RX4 77 "CubeTower$Cube" "kind" "I", Cond.methodLink RX4 171 yX2_copyFrom, Cond.instanceMethod yX2_copyFrom, Cond.selects RX2 yX2_copyFrom yX2_copyFrom, Cond.initialized RX2, Cond.code yX2_copyFrom cX2_copyFrom 3 none, Cond.fieldLink RX2 18 "CubeTower$Tower" "size" "I", Cond.fieldLink RX2 22 "CubeTower$Tower" "turns" "I", Cond.fieldLink RX2 25 "CubeTower$Tower" "seen" "I", Cond.fieldLink RX2 12 "CubeTower$Tower" "cubes" "[LCubeTower$Cube;", Cond.methodLink RX2 28 yX0_copyFrom, Cond.instanceMethod yX0_copyFrom, Cond.selects RX0 yX0_copyFrom yX0_copyFrom, Cond.initialized RX0, Cond.code yX0_copyFrom cX0_copyFrom 2 none, Cond.fieldLink RX0 19 "CubeTower$Cube" "kind" "I", Cond.fieldLink RX0 9 "CubeTower$Cube" "sorts" "I", Cond.fieldLink RX0 15 "CubeTower$Cube" "colours" "[I", Cond.methodLink RX0 26 arraycopyName, Cond.native arraycopyName]
def wsX4_runs_r2 : List Cond := [Cond.static arraycopyName, Cond.initialized "java/lang/System", Cond.methodLink RX4 174 yX4_nextSeed, Cond.static yX4_nextSeed, Cond.initialized RX4, Cond.code yX4_nextSeed cX4_nextSeed 1 (some .int), Cond.constantLong RX4 180 (1103515245), Cond.constantLong RX4 182 (12345), Cond.constantLong RX4 184 (2147483647), Cond.methodLink RX4 177 yX4_draw, Cond.static yX4_draw, Cond.code yX4_draw cX4_draw 2 (some .int), Cond.constant RX4 186 (65536), Cond.methodLink RX4 85 yX2_has, Cond.instanceMethod yX2_has, Cond.selects RX2 yX2_has yX2_has, Cond.code yX2_has cX2_has 2 (some .boolean), Cond.methodLink RX4 125 yX4_canTurn, Cond.static yX4_canTurn, Cond.code yX4_canTurn cX4_canTurn 2 (some .boolean), Cond.fieldLink RX4 102 "CubeTower" "TURNS_OF_KIND" "[I", Cond.methodLink RX4 128 yX0_turnOver, Cond.instanceMethod yX0_turnOver, Cond.selects RX0 yX0_turnOver yX0_turnOver]
def wsX4_runs_r3 : List Cond := [Cond.code yX0_turnOver cX0_turnOver 2 none, Cond.static yX4_turnRow, Cond.code yX4_turnRow cX4_turnRow 10 none, Cond.fieldLink RX4 134 "CubeTower" "RINGS" "[I", Cond.methodLink RX4 131 yX2_clashes, Cond.instanceMethod yX2_clashes, Cond.selects RX2 yX2_clashes yX2_clashes, Cond.code yX2_clashes cX2_clashes 3 (some .int), Cond.methodLink RX2 39 yX2_clashesOn, Cond.instanceMethod yX2_clashesOn, Cond.selects RX2 yX2_clashesOn yX2_clashesOn, Cond.code yX2_clashesOn cX2_clashesOn 6 (some .int), Cond.fieldLink RX2 35 "CubeTower$Cube" "colours" "[I"]
def wsX4_runs : List Cond := .code yX4_runs cX4_runs 9 (some .int) :: ((wsX4_runs_r1 ++ (wsX4_runs_r2 ++ wsX4_runs_r3)) ++ wsX40 ++ wsX20 ++ wsX00)
def wsX4_image_r1 : List Cond := [Cond.fieldLink RX4 16 "CubeTower" "now" "LCubeTower$Tower;", Cond.fieldLink RX4 52 "CubeTower$Tower" "size" "I", Cond.fieldLink RX4 20 "CubeTower" "kept" "LCubeTower$Tower;", Cond.fieldLink RX4 67 "CubeTower$Tower" "turns" "I", Cond.methodLink RX4 171 yX2_copyFrom, Cond.instanceMethod yX2_copyFrom, Cond.selects RX2 yX2_copyFrom yX2_copyFrom, Cond.initialized RX2, Cond.code yX2_copyFrom cX2_copyFrom 3 none, Cond.fieldLink RX2 18 "CubeTower$Tower" "size" "I", Cond.fieldLink RX2 22 "CubeTower$Tower" "turns" "I", Cond.fieldLink RX2 25 "CubeTower$Tower" "seen" "I", Cond.fieldLink RX2 12 "CubeTower$Tower" "cubes" "[LCubeTower$Cube;", Cond.methodLink RX2 28 yX0_copyFrom, Cond.instanceMethod yX0_copyFrom, Cond.selects RX0 yX0_copyFrom yX0_copyFrom, Cond.initialized RX0, Cond.code yX0_copyFrom cX0_copyFrom 2 none, Cond.fieldLink RX0 19 "CubeTower$Cube" "kind" "I", Cond.fieldLink RX0 9 "CubeTower$Cube" "sorts" "I", Cond.fieldLink RX0 15 "CubeTower$Cube" "colours" "[I", Cond.methodLink RX0 26 arraycopyName, Cond.native arraycopyName, Cond.static arraycopyName]
def wsX4_image_r2 : List Cond := [Cond.initialized "java/lang/System"]
def wsX4_image : List Cond := .code yX4_image cX4_image 1 (some .int) :: ((wsX4_image_r1 ++ wsX4_image_r2) ++ wsX40 ++ wsX20 ++ wsX00)
def wsX4_restore_r1 : List Cond := [Cond.fieldLink RX4 20 "CubeTower" "kept" "LCubeTower$Tower;", Cond.fieldLink RX4 52 "CubeTower$Tower" "size" "I", Cond.fieldLink RX4 16 "CubeTower" "now" "LCubeTower$Tower;", Cond.fieldLink RX4 55 "CubeTower" "surveyed" "Z", Cond.fieldLink RX4 67 "CubeTower$Tower" "turns" "I", Cond.methodLink RX4 171 yX2_copyFrom, Cond.instanceMethod yX2_copyFrom, Cond.selects RX2 yX2_copyFrom yX2_copyFrom, Cond.initialized RX2, Cond.code yX2_copyFrom cX2_copyFrom 3 none, Cond.fieldLink RX2 18 "CubeTower$Tower" "size" "I", Cond.fieldLink RX2 22 "CubeTower$Tower" "turns" "I", Cond.fieldLink RX2 25 "CubeTower$Tower" "seen" "I", Cond.fieldLink RX2 12 "CubeTower$Tower" "cubes" "[LCubeTower$Cube;", Cond.methodLink RX2 28 yX0_copyFrom, Cond.instanceMethod yX0_copyFrom, Cond.selects RX0 yX0_copyFrom yX0_copyFrom, Cond.initialized RX0, Cond.code yX0_copyFrom cX0_copyFrom 2 none, Cond.fieldLink RX0 19 "CubeTower$Cube" "kind" "I", Cond.fieldLink RX0 9 "CubeTower$Cube" "sorts" "I", Cond.fieldLink RX0 15 "CubeTower$Cube" "colours" "[I", Cond.methodLink RX0 26 arraycopyName, Cond.native arraycopyName]
def wsX4_restore_r2 : List Cond := [Cond.static arraycopyName, Cond.initialized "java/lang/System"]
def wsX4_restore : List Cond := .code yX4_restore cX4_restore 1 (some .int) :: ((wsX4_restore_r1 ++ wsX4_restore_r2) ++ wsX40 ++ wsX20 ++ wsX00)
def wsX4_count_r1 : List Cond := [Cond.fieldLink RX4 16 "CubeTower" "now" "LCubeTower$Tower;", Cond.fieldLink RX4 52 "CubeTower$Tower" "size" "I", Cond.fieldLink RX4 67 "CubeTower$Tower" "turns" "I", Cond.fieldLink RX4 168 "CubeTower$Tower" "seen" "I", Cond.fieldLink RX4 33 "CubeTower" "letters" "I", Cond.fieldLink RX4 49 "CubeTower" "towersRead" "I", Cond.fieldLink RX4 152 "CubeTower" "repaints" "I", Cond.methodLink RX4 131 yX2_clashes, Cond.instanceMethod yX2_clashes, Cond.selects RX2 yX2_clashes yX2_clashes, Cond.initialized RX2, Cond.code yX2_clashes cX2_clashes 3 (some .int), Cond.methodLink RX2 39 yX2_clashesOn, Cond.instanceMethod yX2_clashesOn, Cond.selects RX2 yX2_clashesOn yX2_clashesOn, Cond.code yX2_clashesOn cX2_clashesOn 6 (some .int), Cond.fieldLink RX2 18 "CubeTower$Tower" "size" "I", Cond.fieldLink RX2 12 "CubeTower$Tower" "cubes" "[LCubeTower$Cube;", Cond.fieldLink RX2 35 "CubeTower$Cube" "colours" "[I", Cond.methodLink RX4 187 yX2_goodWalls, Cond.instanceMethod yX2_goodWalls, Cond.selects RX2 yX2_goodWalls yX2_goodWalls, Cond.code yX2_goodWalls cX2_goodWalls 3 (some .int), Cond.methodLink RX4 190 yX2_coloursUsed]
def wsX4_count_r2 : List Cond := [Cond.instanceMethod yX2_coloursUsed, Cond.selects RX2 yX2_coloursUsed yX2_coloursUsed, Cond.code yX2_coloursUsed cX2_coloursUsed 4 (some .int), Cond.methodLink RX2 43 yJ6_bitCount_0f7a4, Cond.static yJ6_bitCount_0f7a4, Cond.initialized RJ6, Cond.code yJ6_bitCount_0f7a4 cJ6_bitCount_0f7a4 1 (some .int), Cond.constant RJ6 265 (1431655765), Cond.constant RJ6 266 (858993459), Cond.constant RJ6 267 (252645135)]
def wsX4_count : List Cond := .code yX4_count cX4_count 2 (some .int) :: ((wsX4_count_r1 ++ wsX4_count_r2) ++ wsX40 ++ wsX20 ++ wsX00)
def wsX4_addCube_r1 : List Cond := [Cond.constantLong RX4 203 (31), Cond.methodLink RX4 208 yX4_cube, Cond.instanceMethod yX4_cube, Cond.selects RX4 yX4_cube yX4_cube, Cond.initialized RX4, Cond.code yX4_cube cX4_cube 4 (some .int), Cond.fieldLink RX4 16 "CubeTower" "now" "LCubeTower$Tower;", Cond.fieldLink RX4 73 "CubeTower$Tower" "cubes" "[LCubeTower$Cube;", Cond.fieldLink RX4 82 "CubeTower$Cube" "colours" "[I", Cond.fieldLink RX4 77 "CubeTower$Cube" "kind" "I", Cond.fieldLink RX4 29 "CubeTower" "survey" "LCubeTower$Survey;", Cond.fieldLink RX4 89 "CubeTower$Survey" "waysOfKind" "[LCubeTower$Ways;", Cond.fieldLink RX4 93 "CubeTower$Ways" "size" "I", Cond.fieldLink RX4 96 "CubeTower$Cube" "sorts" "I", Cond.fieldLink RX4 102 "CubeTower" "TURNS_OF_KIND" "[I", Cond.methodLink RX4 85 yX2_has, Cond.instanceMethod yX2_has, Cond.selects RX2 yX2_has yX2_has, Cond.initialized RX2, Cond.code yX2_has cX2_has 2 (some .boolean), Cond.fieldLink RX2 18 "CubeTower$Tower" "size" "I", Cond.methodLink RX4 99 yX4_nextQuestion, Cond.static yX4_nextQuestion, Cond.code yX4_nextQuestion cX4_nextQuestion 7 (some .int)]
def wsX4_addCube_r2 : List Cond := [Cond.fieldLink RX4 111 "CubeTower" "KINDS_THAT_COULD" "[I", Cond.methodLink RX4 119 Lib.Math.max.name, Cond.static Lib.Math.max.name, Cond.initialized "java/lang/Math", Cond.code Lib.Math.max.name Lib.Math.max.code 2 (some .int), Cond.methodLink RX4 114 yJ6_bitCount_0f7a4, Cond.static yJ6_bitCount_0f7a4, Cond.initialized RJ6, Cond.code yJ6_bitCount_0f7a4 cJ6_bitCount_0f7a4 1 (some .int), Cond.constant RJ6 265 (1431655765), Cond.constant RJ6 266 (858993459), Cond.constant RJ6 267 (252645135)]
def wsX4_addCube : List Cond := .code yX4_addCube cX4_addCube 7 (some .long) :: ((wsX4_addCube_r1 ++ wsX4_addCube_r2) ++ wsX40 ++ wsX20 ++ wsX00 ++ wsX10 ++ wsX30)
def wsX4_addWholeTower_r1 : List Cond := [Cond.constantLong RX4 203 (31), Cond.methodLink RX4 211 yX4_wall, Cond.instanceMethod yX4_wall, Cond.selects RX4 yX4_wall yX4_wall, Cond.initialized RX4, Cond.code yX4_wall cX4_wall 4 (some .int), Cond.fieldLink RX4 16 "CubeTower" "now" "LCubeTower$Tower;", Cond.fieldLink RX4 52 "CubeTower$Tower" "size" "I", Cond.methodLink RX4 108 yX2_clashesOn, Cond.instanceMethod yX2_clashesOn, Cond.selects RX2 yX2_clashesOn yX2_clashesOn, Cond.initialized RX2, Cond.code yX2_clashesOn cX2_clashesOn 6 (some .int), Cond.fieldLink RX2 18 "CubeTower$Tower" "size" "I", Cond.fieldLink RX2 12 "CubeTower$Tower" "cubes" "[LCubeTower$Cube;", Cond.fieldLink RX2 35 "CubeTower$Cube" "colours" "[I", Cond.methodLink RX4 214 yX4_ways, Cond.instanceMethod yX4_ways, Cond.selects RX4 yX4_ways yX4_ways, Cond.code yX4_ways cX4_ways 2 (some .int), Cond.fieldLink RX4 29 "CubeTower" "survey" "LCubeTower$Survey;", Cond.fieldLink RX4 140 "CubeTower$Survey" "solutions" "I", Cond.fieldLink RX4 143 "CubeTower$Survey" "least" "I", Cond.methodLink RX4 137 yX4_lookAround]
def wsX4_addWholeTower_r2 : List Cond := [Cond.instanceMethod yX4_lookAround, Cond.selects RX4 yX4_lookAround yX4_lookAround, Cond.code yX4_lookAround cX4_lookAround 1 none, Cond.fieldLink RX4 55 "CubeTower" "surveyed" "Z", Cond.methodLink RX4 164 yX1_look, Cond.instanceMethod yX1_look, Cond.selects RX1 yX1_look yX1_look, Cond.initialized RX1, Cond.code yX1_look cX1_look 5 none, Cond.fieldLink RX1 36 "CubeTower$Survey" "solutions" "I", Cond.fieldLink RX1 40 "CubeTower$Survey" "fewestTurns" "I", Cond.fieldLink RX1 43 "CubeTower$Survey" "firstTurns" "I", Cond.constant RX1 48 (2147483647), Cond.fieldLink RX1 49 "CubeTower$Survey" "least" "I", Cond.fieldLink RX1 20 "CubeTower$Survey" "waysOfCube" "[LCubeTower$Ways;", Cond.fieldLink RX1 52 "CubeTower$Ways" "size" "I", Cond.fieldLink RX1 25 "CubeTower$Survey" "walls" "[[I", Cond.methodLink RX1 32 yX1_layOut, Cond.instanceMethod yX1_layOut, Cond.selects RX1 yX1_layOut yX1_layOut, Cond.code yX1_layOut cX1_layOut 7 none, Cond.fieldLink RX1 69 "CubeTower$Tower" "cubes" "[LCubeTower$Cube;", Cond.fieldLink RX1 14 "CubeTower$Survey" "waysOfKind" "[LCubeTower$Ways;", Cond.fieldLink RX1 73 "CubeTower$Cube" "kind" "I"]
def wsX4_addWholeTower_r3 : List Cond := [Cond.methodLink RX1 63 yX2_has, Cond.instanceMethod yX2_has, Cond.selects RX2 yX2_has yX2_has, Cond.code yX2_has cX2_has 2 (some .boolean), Cond.methodLink RX1 78 yX1_wallsOf, Cond.static yX1_wallsOf, Cond.code yX1_wallsOf cX1_wallsOf 6 (some .int), Cond.fieldLink RX1 82 "CubeTower$Ways" "sideAt" "[I", Cond.fieldLink RX1 85 "CubeTower$Cube" "colours" "[I", Cond.methodLink RX1 55 yJ6_bitCount_0f7a4, Cond.static yJ6_bitCount_0f7a4, Cond.initialized RJ6, Cond.code yJ6_bitCount_0f7a4 cJ6_bitCount_0f7a4 1 (some .int), Cond.constant RJ6 265 (1431655765), Cond.constant RJ6 266 (858993459), Cond.constant RJ6 267 (252645135), Cond.methodLink RX1 59 yX1_tryThird, Cond.instanceMethod yX1_tryThird, Cond.selects RX1 yX1_tryThird yX1_tryThird, Cond.code yX1_tryThird cX1_tryThird 9 none, Cond.methodLink RX1 88 Lib.Math.min.name, Cond.static Lib.Math.min.name, Cond.initialized "java/lang/Math", Cond.code Lib.Math.min.name Lib.Math.min.code 2 (some .int)]
def wsX4_addWholeTower_r4 : List Cond := [Cond.methodLink RX1 94 yX1_addSolution, Cond.instanceMethod yX1_addSolution, Cond.selects RX1 yX1_addSolution yX1_addSolution, Cond.code yX1_addSolution cX1_addSolution 5 none, Cond.fieldLink RX1 97 "CubeTower$Ways" "turnsTo" "[I", Cond.fieldLink RX1 100 "CubeTower$Ways" "firstTurns" "[I", Cond.methodLink RX4 217 yX4_turning, Cond.instanceMethod yX4_turning, Cond.selects RX4 yX4_turning yX4_turning, Cond.code yX4_turning cX4_turning 2 (some .int), Cond.fieldLink RX4 146 "CubeTower$Survey" "fewestTurns" "I", Cond.methodLink RX4 149 yX1_firstTurn, Cond.instanceMethod yX1_firstTurn, Cond.selects RX1 yX1_firstTurn yX1_firstTurn, Cond.code yX1_firstTurn cX1_firstTurn 2 (some .int), Cond.methodLink RX1 102 yJ6_numberOfTrailingZeros_0f7a4, Cond.static yJ6_numberOfTrailingZeros_0f7a4, Cond.code yJ6_numberOfTrailingZeros_0f7a4 cJ6_numberOfTrailingZeros_0f7a4 2 (some .int), Cond.constant RJ6 264 (65536), Cond.methodLink RX4 220 yX4_odds, Cond.instanceMethod yX4_odds, Cond.selects RX4 yX4_odds yX4_odds, Cond.code yX4_odds cX4_odds 5 (some .int), Cond.methodLink RX4 158 yX1_allWays]
def wsX4_addWholeTower_r5 : List Cond := [Cond.instanceMethod yX1_allWays, Cond.selects RX1 yX1_allWays yX1_allWays, Cond.code yX1_allWays cX1_allWays 1 (some .int), Cond.methodLink RX4 161 yX4_commonDivisor, Cond.static yX4_commonDivisor, Cond.code yX4_commonDivisor cX4_commonDivisor 6 (some .int)]
def wsX4_addWholeTower : List Cond := .code yX4_addWholeTower cX4_addWholeTower 6 (some .long) :: ((wsX4_addWholeTower_r1 ++ (wsX4_addWholeTower_r2 ++ (wsX4_addWholeTower_r3 ++ (wsX4_addWholeTower_r4 ++ wsX4_addWholeTower_r5)))) ++ wsX40 ++ wsX20 ++ wsX00 ++ wsX10 ++ wsX30)
def wsX4_digest_r1 : List Cond := [Cond.constantLong RX4 193 (1319), Cond.fieldLink RX4 16 "CubeTower" "now" "LCubeTower$Tower;", Cond.fieldLink RX4 52 "CubeTower$Tower" "size" "I", Cond.fieldLink RX4 33 "CubeTower" "letters" "I", Cond.constantLong RX4 203 (31), Cond.fieldLink RX4 9 "CubeTower" "page" "[I", Cond.methodLink RX4 195 yX4_addCube, Cond.instanceMethod yX4_addCube, Cond.selects RX4 yX4_addCube yX4_addCube, Cond.initialized RX4, Cond.code yX4_addCube cX4_addCube 7 (some .long), Cond.methodLink RX4 208 yX4_cube, Cond.instanceMethod yX4_cube, Cond.selects RX4 yX4_cube yX4_cube, Cond.code yX4_cube cX4_cube 4 (some .int), Cond.fieldLink RX4 73 "CubeTower$Tower" "cubes" "[LCubeTower$Cube;", Cond.fieldLink RX4 82 "CubeTower$Cube" "colours" "[I", Cond.fieldLink RX4 77 "CubeTower$Cube" "kind" "I", Cond.fieldLink RX4 29 "CubeTower" "survey" "LCubeTower$Survey;", Cond.fieldLink RX4 89 "CubeTower$Survey" "waysOfKind" "[LCubeTower$Ways;", Cond.fieldLink RX4 93 "CubeTower$Ways" "size" "I", Cond.fieldLink RX4 96 "CubeTower$Cube" "sorts" "I", Cond.fieldLink RX4 102 "CubeTower" "TURNS_OF_KIND" "[I", Cond.methodLink RX4 85 yX2_has]
def wsX4_digest_r2 : List Cond := [Cond.instanceMethod yX2_has, Cond.selects RX2 yX2_has yX2_has, Cond.initialized RX2, Cond.code yX2_has cX2_has 2 (some .boolean), Cond.fieldLink RX2 18 "CubeTower$Tower" "size" "I", Cond.methodLink RX4 99 yX4_nextQuestion, Cond.static yX4_nextQuestion, Cond.code yX4_nextQuestion cX4_nextQuestion 7 (some .int), Cond.fieldLink RX4 111 "CubeTower" "KINDS_THAT_COULD" "[I", Cond.methodLink RX4 119 Lib.Math.max.name, Cond.static Lib.Math.max.name, Cond.initialized "java/lang/Math", Cond.code Lib.Math.max.name Lib.Math.max.code 2 (some .int), Cond.methodLink RX4 114 yJ6_bitCount_0f7a4, Cond.static yJ6_bitCount_0f7a4, Cond.initialized RJ6, Cond.code yJ6_bitCount_0f7a4 cJ6_bitCount_0f7a4 1 (some .int), Cond.constant RJ6 265 (1431655765), Cond.constant RJ6 266 (858993459), Cond.constant RJ6 267 (252645135), Cond.methodLink RX4 199 yX4_addWholeTower, Cond.instanceMethod yX4_addWholeTower, Cond.selects RX4 yX4_addWholeTower yX4_addWholeTower, Cond.code yX4_addWholeTower cX4_addWholeTower 6 (some .long)]
def wsX4_digest_r3 : List Cond := [Cond.methodLink RX4 211 yX4_wall, Cond.instanceMethod yX4_wall, Cond.selects RX4 yX4_wall yX4_wall, Cond.code yX4_wall cX4_wall 4 (some .int), Cond.methodLink RX4 108 yX2_clashesOn, Cond.instanceMethod yX2_clashesOn, Cond.selects RX2 yX2_clashesOn yX2_clashesOn, Cond.code yX2_clashesOn cX2_clashesOn 6 (some .int), Cond.fieldLink RX2 12 "CubeTower$Tower" "cubes" "[LCubeTower$Cube;", Cond.fieldLink RX2 35 "CubeTower$Cube" "colours" "[I", Cond.methodLink RX4 214 yX4_ways, Cond.instanceMethod yX4_ways, Cond.selects RX4 yX4_ways yX4_ways, Cond.code yX4_ways cX4_ways 2 (some .int), Cond.fieldLink RX4 140 "CubeTower$Survey" "solutions" "I", Cond.fieldLink RX4 143 "CubeTower$Survey" "least" "I", Cond.methodLink RX4 137 yX4_lookAround, Cond.instanceMethod yX4_lookAround, Cond.selects RX4 yX4_lookAround yX4_lookAround, Cond.code yX4_lookAround cX4_lookAround 1 none, Cond.fieldLink RX4 55 "CubeTower" "surveyed" "Z", Cond.methodLink RX4 164 yX1_look, Cond.instanceMethod yX1_look, Cond.selects RX1 yX1_look yX1_look]
def wsX4_digest_r4 : List Cond := [Cond.initialized RX1, Cond.code yX1_look cX1_look 5 none, Cond.fieldLink RX1 36 "CubeTower$Survey" "solutions" "I", Cond.fieldLink RX1 40 "CubeTower$Survey" "fewestTurns" "I", Cond.fieldLink RX1 43 "CubeTower$Survey" "firstTurns" "I", Cond.constant RX1 48 (2147483647), Cond.fieldLink RX1 49 "CubeTower$Survey" "least" "I", Cond.fieldLink RX1 20 "CubeTower$Survey" "waysOfCube" "[LCubeTower$Ways;", Cond.fieldLink RX1 52 "CubeTower$Ways" "size" "I", Cond.fieldLink RX1 25 "CubeTower$Survey" "walls" "[[I", Cond.methodLink RX1 32 yX1_layOut, Cond.instanceMethod yX1_layOut, Cond.selects RX1 yX1_layOut yX1_layOut, Cond.code yX1_layOut cX1_layOut 7 none, Cond.fieldLink RX1 69 "CubeTower$Tower" "cubes" "[LCubeTower$Cube;", Cond.fieldLink RX1 14 "CubeTower$Survey" "waysOfKind" "[LCubeTower$Ways;", Cond.fieldLink RX1 73 "CubeTower$Cube" "kind" "I", Cond.methodLink RX1 63 yX2_has, Cond.methodLink RX1 78 yX1_wallsOf, Cond.static yX1_wallsOf, Cond.code yX1_wallsOf cX1_wallsOf 6 (some .int), Cond.fieldLink RX1 82 "CubeTower$Ways" "sideAt" "[I", Cond.fieldLink RX1 85 "CubeTower$Cube" "colours" "[I", Cond.methodLink RX1 55 yJ6_bitCount_0f7a4]
def wsX4_digest_r5 : List Cond := [Cond.methodLink RX1 59 yX1_tryThird, Cond.instanceMethod yX1_tryThird, Cond.selects RX1 yX1_tryThird yX1_tryThird, Cond.code yX1_tryThird cX1_tryThird 9 none, Cond.methodLink RX1 88 Lib.Math.min.name, Cond.static Lib.Math.min.name, Cond.code Lib.Math.min.name Lib.Math.min.code 2 (some .int), Cond.methodLink RX1 94 yX1_addSolution, Cond.instanceMethod yX1_addSolution, Cond.selects RX1 yX1_addSolution yX1_addSolution, Cond.code yX1_addSolution cX1_addSolution 5 none, Cond.fieldLink RX1 97 "CubeTower$Ways" "turnsTo" "[I", Cond.fieldLink RX1 100 "CubeTower$Ways" "firstTurns" "[I", Cond.methodLink RX4 217 yX4_turning, Cond.instanceMethod yX4_turning, Cond.selects RX4 yX4_turning yX4_turning, Cond.code yX4_turning cX4_turning 2 (some .int), Cond.fieldLink RX4 146 "CubeTower$Survey" "fewestTurns" "I", Cond.methodLink RX4 149 yX1_firstTurn, Cond.instanceMethod yX1_firstTurn, Cond.selects RX1 yX1_firstTurn yX1_firstTurn, Cond.code yX1_firstTurn cX1_firstTurn 2 (some .int), Cond.methodLink RX1 102 yJ6_numberOfTrailingZeros_0f7a4, Cond.static yJ6_numberOfTrailingZeros_0f7a4]
def wsX4_digest_r6 : List Cond := [Cond.code yJ6_numberOfTrailingZeros_0f7a4 cJ6_numberOfTrailingZeros_0f7a4 2 (some .int), Cond.constant RJ6 264 (65536), Cond.methodLink RX4 220 yX4_odds, Cond.instanceMethod yX4_odds, Cond.selects RX4 yX4_odds yX4_odds, Cond.code yX4_odds cX4_odds 5 (some .int), Cond.methodLink RX4 158 yX1_allWays, Cond.instanceMethod yX1_allWays, Cond.selects RX1 yX1_allWays yX1_allWays, Cond.code yX1_allWays cX1_allWays 1 (some .int), Cond.methodLink RX4 161 yX4_commonDivisor, Cond.static yX4_commonDivisor, Cond.code yX4_commonDivisor cX4_commonDivisor 6 (some .int), Cond.methodLink RX4 205 yX4_count, Cond.instanceMethod yX4_count, Cond.selects RX4 yX4_count yX4_count, Cond.code yX4_count cX4_count 2 (some .int), Cond.fieldLink RX4 67 "CubeTower$Tower" "turns" "I", Cond.fieldLink RX4 168 "CubeTower$Tower" "seen" "I", Cond.fieldLink RX4 49 "CubeTower" "towersRead" "I", Cond.fieldLink RX4 152 "CubeTower" "repaints" "I", Cond.methodLink RX4 131 yX2_clashes, Cond.instanceMethod yX2_clashes, Cond.selects RX2 yX2_clashes yX2_clashes]
def wsX4_digest_r7 : List Cond := [Cond.code yX2_clashes cX2_clashes 3 (some .int), Cond.methodLink RX2 39 yX2_clashesOn, Cond.methodLink RX4 187 yX2_goodWalls, Cond.instanceMethod yX2_goodWalls, Cond.selects RX2 yX2_goodWalls yX2_goodWalls, Cond.code yX2_goodWalls cX2_goodWalls 3 (some .int), Cond.methodLink RX4 190 yX2_coloursUsed, Cond.instanceMethod yX2_coloursUsed, Cond.selects RX2 yX2_coloursUsed yX2_coloursUsed, Cond.code yX2_coloursUsed cX2_coloursUsed 4 (some .int), Cond.methodLink RX2 43 yJ6_bitCount_0f7a4]
def wsX4_digest : List Cond := .code yX4_digest cX4_digest 4 (some .long) :: ((wsX4_digest_r1 ++ (wsX4_digest_r2 ++ (wsX4_digest_r3 ++ (wsX4_digest_r4 ++ (wsX4_digest_r5 ++ (wsX4_digest_r6 ++ wsX4_digest_r7)))))) ++ wsX40 ++ wsX20 ++ wsX00 ++ wsX10 ++ wsX30)
def wsX5_init : List Cond := .code yX5_init cX5_init 1 none :: ([.methodLink RX5 1 objectInit, .instanceMethod objectInit, .code objectInit ⟨#[0xb1]⟩ 1 none, .arrayClass .int, .fieldLink RX5 7 "CubeTowerModel" "kindOf" "[I", .fieldLink RX5 13 "CubeTowerModel" "lies" "[I", .fieldLink RX5 16 "CubeTowerModel" "seenCube" "[I", .fieldLink RX5 19 "CubeTowerModel" "seenWhat" "[I", .fieldLink RX5 22 "CubeTowerModel" "seenCould" "[I", .arrayClass .byte, .fieldLink RX5 25 "CubeTowerModel" "page" "[B", .fieldLink RX5 29 "CubeTowerModel" "wayOf" "[I", .fieldLink RX5 32 "CubeTowerModel" "farOf" "[I", .fieldLink RX5 35 "CubeTowerModel" "manyOf" "[I", .fieldLink RX5 38 "CubeTowerModel" "colourOf" "[I", .fieldLink RX5 41 "CubeTowerModel" "thought" "[I", .fieldLink RX5 44 "CubeTowerModel" "keptKind" "[I", .fieldLink RX5 47 "CubeTowerModel" "keptLies" "[I", .fieldLink RX5 50 "CubeTowerModel" "keptCube" "[I", .fieldLink RX5 53 "CubeTowerModel" "keptWhat" "[I", .fieldLink RX5 56 "CubeTowerModel" "keptCould" "[I"] ++ wsX50)
def wsX5_within : List Cond := .code yX5_within cX5_within 3 (some .boolean) :: ([])
def wsX5_isIn : List Cond := .code yX5_isIn cX5_isIn 2 (some .boolean) :: ([])
def wsX5_size : List Cond := .code yX5_size cX5_size 3 (some .int) :: ([])
def wsX5_divisor : List Cond := .code yX5_divisor cX5_divisor 5 (some .int) :: ([])
def wsX5_letter : List Cond := .code yX5_letter cX5_letter 2 (some .int) :: ([.fieldLink RX5 63 "CubeTowerModel" "pageLength" "I", .fieldLink RX5 25 "CubeTowerModel" "page" "[B", .methodLink RX5 59 yX5_within, .static yX5_within, .initialized RX5, .code yX5_within cX5_within 3 (some .boolean)] ++ wsX50)
def wsX5_blank : List Cond := .code yX5_blank cX5_blank 2 (some .int) :: ([.fieldLink RX5 63 "CubeTowerModel" "pageLength" "I"] ++ wsX50)
def wsX5_kindBy : List Cond := .code yX5_kindBy cX5_kindBy 1 (some .int) :: ([])
def wsX5_at : List Cond := .code yX5_at cX5_at 2 (some .int) :: ([.fieldLink RX5 63 "CubeTowerModel" "pageLength" "I", .fieldLink RX5 25 "CubeTowerModel" "page" "[B"] ++ wsX50)
def wsX5_readCube : List Cond := .code yX5_readCube cX5_readCube 3 (some .int) :: ([.methodLink RX5 67 yX5_at, .instanceMethod yX5_at, .selects RX5 yX5_at yX5_at, .initialized RX5, .code yX5_at cX5_at 2 (some .int), .fieldLink RX5 63 "CubeTowerModel" "pageLength" "I", .fieldLink RX5 25 "CubeTowerModel" "page" "[B", .methodLink RX5 71 yX5_kindBy, .static yX5_kindBy, .code yX5_kindBy cX5_kindBy 1 (some .int), .methodLink RX5 59 yX5_within, .static yX5_within, .code yX5_within cX5_within 3 (some .boolean)] ++ wsX50)
def wsX5_read : List Cond := .code yX5_read cX5_read 3 (some .int) :: ([.fieldLink RX5 74 "CubeTowerModel" "isWhole" "Z", .fieldLink RX5 78 "CubeTowerModel" "newCubes" "I", .fieldLink RX5 63 "CubeTowerModel" "pageLength" "I", .methodLink RX5 81 yX5_readCube, .instanceMethod yX5_readCube, .selects RX5 yX5_readCube yX5_readCube, .initialized RX5, .code yX5_readCube cX5_readCube 3 (some .int), .methodLink RX5 67 yX5_at, .instanceMethod yX5_at, .selects RX5 yX5_at yX5_at, .code yX5_at cX5_at 2 (some .int), .fieldLink RX5 25 "CubeTowerModel" "page" "[B", .methodLink RX5 71 yX5_kindBy, .static yX5_kindBy, .code yX5_kindBy cX5_kindBy 1 (some .int), .methodLink RX5 59 yX5_within, .static yX5_within, .code yX5_within cX5_within 3 (some .boolean)] ++ wsX50)
def wsX5_fault : List Cond := .code yX5_fault cX5_fault 1 (some .int) :: ([.methodLink RX5 84 yX5_read, .instanceMethod yX5_read, .selects RX5 yX5_read yX5_read, .initialized RX5, .code yX5_read cX5_read 3 (some .int), .fieldLink RX5 74 "CubeTowerModel" "isWhole" "Z", .fieldLink RX5 78 "CubeTowerModel" "newCubes" "I", .fieldLink RX5 63 "CubeTowerModel" "pageLength" "I", .methodLink RX5 81 yX5_readCube, .instanceMethod yX5_readCube, .selects RX5 yX5_readCube yX5_readCube, .code yX5_readCube cX5_readCube 3 (some .int), .methodLink RX5 67 yX5_at, .instanceMethod yX5_at, .selects RX5 yX5_at yX5_at, .code yX5_at cX5_at 2 (some .int), .fieldLink RX5 25 "CubeTowerModel" "page" "[B", .methodLink RX5 71 yX5_kindBy, .static yX5_kindBy, .code yX5_kindBy cX5_kindBy 1 (some .int), .methodLink RX5 59 yX5_within, .static yX5_within, .code yX5_within cX5_within 3 (some .boolean)] ++ wsX50)
def wsX5_tower_r1 : List Cond := [Cond.fieldLink RX5 74 "CubeTowerModel" "isWhole" "Z", Cond.fieldLink RX5 78 "CubeTowerModel" "newCubes" "I", Cond.fieldLink RX5 88 "CubeTowerModel" "cubes" "I", Cond.fieldLink RX5 7 "CubeTowerModel" "kindOf" "[I", Cond.fieldLink RX5 25 "CubeTowerModel" "page" "[B", Cond.fieldLink RX5 13 "CubeTowerModel" "lies" "[I", Cond.fieldLink RX5 91 "CubeTowerModel" "turns" "I", Cond.fieldLink RX5 94 "CubeTowerModel" "towers" "I", Cond.fieldLink RX5 97 "CubeTowerModel" "seen" "I", Cond.fieldLink RX5 63 "CubeTowerModel" "pageLength" "I", Cond.methodLink RX5 84 yX5_read, Cond.instanceMethod yX5_read, Cond.selects RX5 yX5_read yX5_read, Cond.initialized RX5, Cond.code yX5_read cX5_read 3 (some .int), Cond.methodLink RX5 81 yX5_readCube, Cond.instanceMethod yX5_readCube, Cond.selects RX5 yX5_readCube yX5_readCube, Cond.code yX5_readCube cX5_readCube 3 (some .int), Cond.methodLink RX5 67 yX5_at, Cond.instanceMethod yX5_at, Cond.selects RX5 yX5_at yX5_at, Cond.code yX5_at cX5_at 2 (some .int), Cond.methodLink RX5 71 yX5_kindBy]
def wsX5_tower_r2 : List Cond := [Cond.static yX5_kindBy, Cond.code yX5_kindBy cX5_kindBy 1 (some .int), Cond.methodLink RX5 59 yX5_within, Cond.static yX5_within, Cond.code yX5_within cX5_within 3 (some .boolean)]
def wsX5_tower : List Cond := .code yX5_tower cX5_tower 3 (some .int) :: ((wsX5_tower_r1 ++ wsX5_tower_r2) ++ wsX50)
def wsX5_isCube : List Cond := .code yX5_isCube cX5_isCube 2 (some .boolean) :: ([.fieldLink RX5 88 "CubeTowerModel" "cubes" "I", .methodLink RX5 59 yX5_within, .static yX5_within, .initialized RX5, .code yX5_within cX5_within 3 (some .boolean)] ++ wsX50)
def wsX5_side : List Cond := .code yX5_side cX5_side 2 (some .int) :: ([])
def wsX5_ring : List Cond := .code yX5_ring cX5_ring 6 (some .int) :: ([.methodLink RX5 100 yX5_side, .static yX5_side, .initialized RX5, .code yX5_side cX5_side 2 (some .int)])
def wsX5_quarter : List Cond := .code yX5_quarter cX5_quarter 2 (some .int) :: ([.methodLink RX5 104 yX5_ring, .static yX5_ring, .initialized RX5, .code yX5_ring cX5_ring 6 (some .int), .methodLink RX5 100 yX5_side, .static yX5_side, .code yX5_side cX5_side 2 (some .int)])
def wsX5_turnsOf : List Cond := .code yX5_turnsOf cX5_turnsOf 1 (some .int) :: ([])
def wsX5_turned : List Cond := .code yX5_turned cX5_turned 4 (some .int) :: ([.methodLink RX5 108 yX5_quarter, .static yX5_quarter, .initialized RX5, .code yX5_quarter cX5_quarter 2 (some .int), .methodLink RX5 104 yX5_ring, .static yX5_ring, .code yX5_ring cX5_ring 6 (some .int), .methodLink RX5 100 yX5_side, .static yX5_side, .code yX5_side cX5_side 2 (some .int)])
def wsX5_waysOf : List Cond := .code yX5_waysOf cX5_waysOf 1 (some .int) :: ([])
def wsX5_could : List Cond := .code yX5_could cX5_could 2 (some .boolean) :: ([])
def wsX5_sortsOf : List Cond := .code yX5_sortsOf cX5_sortsOf 6 (some .int) :: ([.fieldLink RX5 97 "CubeTowerModel" "seen" "I", .fieldLink RX5 16 "CubeTowerModel" "seenCube" "[I", .fieldLink RX5 19 "CubeTowerModel" "seenWhat" "[I", .fieldLink RX5 22 "CubeTowerModel" "seenCould" "[I", .methodLink RX5 228 yX5_could, .static yX5_could, .initialized RX5, .code yX5_could cX5_could 2 (some .boolean)] ++ wsX50)
def wsX5_askOf : List Cond := .code yX5_askOf cX5_askOf 9 (some .int) :: ([.constant RX5 188 (1048576), .methodLink RX5 114 yX5_sortsOf, .instanceMethod yX5_sortsOf, .selects RX5 yX5_sortsOf yX5_sortsOf, .initialized RX5, .code yX5_sortsOf cX5_sortsOf 6 (some .int), .fieldLink RX5 97 "CubeTowerModel" "seen" "I", .fieldLink RX5 16 "CubeTowerModel" "seenCube" "[I", .fieldLink RX5 19 "CubeTowerModel" "seenWhat" "[I", .fieldLink RX5 22 "CubeTowerModel" "seenCould" "[I", .methodLink RX5 228 yX5_could, .static yX5_could, .code yX5_could cX5_could 2 (some .boolean), .methodLink RX5 144 yX5_isIn, .static yX5_isIn, .code yX5_isIn cX5_isIn 2 (some .boolean), .methodLink RX5 231 yX5_size, .static yX5_size, .code yX5_size cX5_size 3 (some .int)] ++ wsX50)
def wsX5_cubeNow_r1 : List Cond := [Cond.fieldLink RX5 7 "CubeTowerModel" "kindOf" "[I", Cond.fieldLink RX5 13 "CubeTowerModel" "lies" "[I", Cond.methodLink RX5 111 yX5_waysOf, Cond.static yX5_waysOf, Cond.initialized RX5, Cond.code yX5_waysOf cX5_waysOf 1 (some .int), Cond.methodLink RX5 114 yX5_sortsOf, Cond.instanceMethod yX5_sortsOf, Cond.selects RX5 yX5_sortsOf yX5_sortsOf, Cond.code yX5_sortsOf cX5_sortsOf 6 (some .int), Cond.fieldLink RX5 97 "CubeTowerModel" "seen" "I", Cond.fieldLink RX5 16 "CubeTowerModel" "seenCube" "[I", Cond.fieldLink RX5 19 "CubeTowerModel" "seenWhat" "[I", Cond.fieldLink RX5 22 "CubeTowerModel" "seenCould" "[I", Cond.methodLink RX5 228 yX5_could, Cond.static yX5_could, Cond.code yX5_could cX5_could 2 (some .boolean), Cond.methodLink RX5 117 yX5_askOf, Cond.instanceMethod yX5_askOf, Cond.selects RX5 yX5_askOf yX5_askOf, Cond.code yX5_askOf cX5_askOf 9 (some .int), Cond.constant RX5 188 (1048576), Cond.methodLink RX5 144 yX5_isIn, Cond.static yX5_isIn]
def wsX5_cubeNow_r2 : List Cond := [Cond.code yX5_isIn cX5_isIn 2 (some .boolean), Cond.methodLink RX5 231 yX5_size, Cond.static yX5_size, Cond.code yX5_size cX5_size 3 (some .int), Cond.methodLink RX5 120 yX5_turnsOf, Cond.static yX5_turnsOf, Cond.code yX5_turnsOf cX5_turnsOf 1 (some .int), Cond.methodLink RX5 100 yX5_side, Cond.static yX5_side, Cond.code yX5_side cX5_side 2 (some .int)]
def wsX5_cubeNow : List Cond := .code yX5_cubeNow cX5_cubeNow 3 (some .int) :: ((wsX5_cubeNow_r1 ++ wsX5_cubeNow_r2) ++ wsX50)
def wsX5_cube_r1 : List Cond := [Cond.methodLink RX5 123 yX5_isCube, Cond.instanceMethod yX5_isCube, Cond.selects RX5 yX5_isCube yX5_isCube, Cond.initialized RX5, Cond.code yX5_isCube cX5_isCube 2 (some .boolean), Cond.fieldLink RX5 88 "CubeTowerModel" "cubes" "I", Cond.methodLink RX5 59 yX5_within, Cond.static yX5_within, Cond.code yX5_within cX5_within 3 (some .boolean), Cond.methodLink RX5 127 yX5_cubeNow, Cond.instanceMethod yX5_cubeNow, Cond.selects RX5 yX5_cubeNow yX5_cubeNow, Cond.code yX5_cubeNow cX5_cubeNow 3 (some .int), Cond.fieldLink RX5 7 "CubeTowerModel" "kindOf" "[I", Cond.fieldLink RX5 13 "CubeTowerModel" "lies" "[I", Cond.methodLink RX5 111 yX5_waysOf, Cond.static yX5_waysOf, Cond.code yX5_waysOf cX5_waysOf 1 (some .int), Cond.methodLink RX5 114 yX5_sortsOf, Cond.instanceMethod yX5_sortsOf, Cond.selects RX5 yX5_sortsOf yX5_sortsOf, Cond.code yX5_sortsOf cX5_sortsOf 6 (some .int), Cond.fieldLink RX5 97 "CubeTowerModel" "seen" "I", Cond.fieldLink RX5 16 "CubeTowerModel" "seenCube" "[I"]
def wsX5_cube_r2 : List Cond := [Cond.fieldLink RX5 19 "CubeTowerModel" "seenWhat" "[I", Cond.fieldLink RX5 22 "CubeTowerModel" "seenCould" "[I", Cond.methodLink RX5 228 yX5_could, Cond.static yX5_could, Cond.code yX5_could cX5_could 2 (some .boolean), Cond.methodLink RX5 117 yX5_askOf, Cond.instanceMethod yX5_askOf, Cond.selects RX5 yX5_askOf yX5_askOf, Cond.code yX5_askOf cX5_askOf 9 (some .int), Cond.constant RX5 188 (1048576), Cond.methodLink RX5 144 yX5_isIn, Cond.static yX5_isIn, Cond.code yX5_isIn cX5_isIn 2 (some .boolean), Cond.methodLink RX5 231 yX5_size, Cond.static yX5_size, Cond.code yX5_size cX5_size 3 (some .int), Cond.methodLink RX5 120 yX5_turnsOf, Cond.static yX5_turnsOf, Cond.code yX5_turnsOf cX5_turnsOf 1 (some .int), Cond.methodLink RX5 100 yX5_side, Cond.static yX5_side, Cond.code yX5_side cX5_side 2 (some .int)]
def wsX5_cube : List Cond := .code yX5_cube cX5_cube 3 (some .int) :: ((wsX5_cube_r1 ++ wsX5_cube_r2) ++ wsX50)
def wsX5_as : List Cond := .code yX5_as cX5_as 4 (some .int) :: ([.fieldLink RX5 7 "CubeTowerModel" "kindOf" "[I", .methodLink RX5 123 yX5_isCube, .instanceMethod yX5_isCube, .selects RX5 yX5_isCube yX5_isCube, .initialized RX5, .code yX5_isCube cX5_isCube 2 (some .boolean), .fieldLink RX5 88 "CubeTowerModel" "cubes" "I", .methodLink RX5 59 yX5_within, .static yX5_within, .code yX5_within cX5_within 3 (some .boolean)] ++ wsX50)
def wsX5_same : List Cond := .code yX5_same cX5_same 3 (some .int) :: ([.methodLink RX5 100 yX5_side, .static yX5_side, .initialized RX5, .code yX5_side cX5_side 2 (some .int)])
def wsX5_clashesOn : List Cond := .code yX5_clashesOn cX5_clashesOn 5 (some .int) :: ([.fieldLink RX5 88 "CubeTowerModel" "cubes" "I", .methodLink RX5 130 yX5_same, .static yX5_same, .initialized RX5, .code yX5_same cX5_same 3 (some .int), .methodLink RX5 100 yX5_side, .static yX5_side, .code yX5_side cX5_side 2 (some .int)] ++ wsX50)
def wsX5_clashesOf : List Cond := .code yX5_clashesOf cX5_clashesOf 6 (some .int) :: ([.methodLink RX5 134 yX5_clashesOn, .instanceMethod yX5_clashesOn, .selects RX5 yX5_clashesOn yX5_clashesOn, .initialized RX5, .code yX5_clashesOn cX5_clashesOn 5 (some .int), .fieldLink RX5 88 "CubeTowerModel" "cubes" "I", .methodLink RX5 130 yX5_same, .static yX5_same, .code yX5_same cX5_same 3 (some .int), .methodLink RX5 100 yX5_side, .static yX5_side, .code yX5_side cX5_side 2 (some .int)] ++ wsX50)
def wsX5_clashes : List Cond := .code yX5_clashes cX5_clashes 1 (some .int) :: ([.fieldLink RX5 88 "CubeTowerModel" "cubes" "I", .fieldLink RX5 13 "CubeTowerModel" "lies" "[I", .methodLink RX5 138 yX5_clashesOf, .instanceMethod yX5_clashesOf, .selects RX5 yX5_clashesOf yX5_clashesOf, .initialized RX5, .code yX5_clashesOf cX5_clashesOf 6 (some .int), .methodLink RX5 134 yX5_clashesOn, .instanceMethod yX5_clashesOn, .selects RX5 yX5_clashesOn yX5_clashesOn, .code yX5_clashesOn cX5_clashesOn 5 (some .int), .methodLink RX5 130 yX5_same, .static yX5_same, .code yX5_same cX5_same 3 (some .int), .methodLink RX5 100 yX5_side, .static yX5_side, .code yX5_side cX5_side 2 (some .int)] ++ wsX50)
def wsX5_wallNow : List Cond := .code yX5_wallNow cX5_wallNow 4 (some .int) :: ([.fieldLink RX5 13 "CubeTowerModel" "lies" "[I", .methodLink RX5 134 yX5_clashesOn, .instanceMethod yX5_clashesOn, .selects RX5 yX5_clashesOn yX5_clashesOn, .initialized RX5, .code yX5_clashesOn cX5_clashesOn 5 (some .int), .fieldLink RX5 88 "CubeTowerModel" "cubes" "I", .methodLink RX5 130 yX5_same, .static yX5_same, .code yX5_same cX5_same 3 (some .int), .methodLink RX5 100 yX5_side, .static yX5_side, .code yX5_side cX5_side 2 (some .int)] ++ wsX50)
def wsX5_wall : List Cond := .code yX5_wall cX5_wall 3 (some .int) :: ([.fieldLink RX5 88 "CubeTowerModel" "cubes" "I", .methodLink RX5 59 yX5_within, .static yX5_within, .initialized RX5, .code yX5_within cX5_within 3 (some .boolean), .methodLink RX5 141 yX5_wallNow, .instanceMethod yX5_wallNow, .selects RX5 yX5_wallNow yX5_wallNow, .code yX5_wallNow cX5_wallNow 4 (some .int), .fieldLink RX5 13 "CubeTowerModel" "lies" "[I", .methodLink RX5 134 yX5_clashesOn, .instanceMethod yX5_clashesOn, .selects RX5 yX5_clashesOn yX5_clashesOn, .code yX5_clashesOn cX5_clashesOn 5 (some .int), .methodLink RX5 130 yX5_same, .static yX5_same, .code yX5_same cX5_same 3 (some .int), .methodLink RX5 100 yX5_side, .static yX5_side, .code yX5_side cX5_side 2 (some .int)] ++ wsX50)
def wsX5_turn_r1 : List Cond := [Cond.fieldLink RX5 7 "CubeTowerModel" "kindOf" "[I", Cond.fieldLink RX5 91 "CubeTowerModel" "turns" "I", Cond.fieldLink RX5 13 "CubeTowerModel" "lies" "[I", Cond.methodLink RX5 123 yX5_isCube, Cond.instanceMethod yX5_isCube, Cond.selects RX5 yX5_isCube yX5_isCube, Cond.initialized RX5, Cond.code yX5_isCube cX5_isCube 2 (some .boolean), Cond.fieldLink RX5 88 "CubeTowerModel" "cubes" "I", Cond.methodLink RX5 59 yX5_within, Cond.static yX5_within, Cond.code yX5_within cX5_within 3 (some .boolean), Cond.methodLink RX5 120 yX5_turnsOf, Cond.static yX5_turnsOf, Cond.code yX5_turnsOf cX5_turnsOf 1 (some .int), Cond.methodLink RX5 144 yX5_isIn, Cond.static yX5_isIn, Cond.code yX5_isIn cX5_isIn 2 (some .boolean), Cond.methodLink RX5 148 yX5_turned, Cond.static yX5_turned, Cond.code yX5_turned cX5_turned 4 (some .int), Cond.methodLink RX5 108 yX5_quarter, Cond.static yX5_quarter, Cond.code yX5_quarter cX5_quarter 2 (some .int)]
def wsX5_turn_r2 : List Cond := [Cond.methodLink RX5 104 yX5_ring, Cond.static yX5_ring, Cond.code yX5_ring cX5_ring 6 (some .int), Cond.methodLink RX5 100 yX5_side, Cond.static yX5_side, Cond.code yX5_side cX5_side 2 (some .int), Cond.methodLink RX5 151 yX5_clashes, Cond.instanceMethod yX5_clashes, Cond.selects RX5 yX5_clashes yX5_clashes, Cond.code yX5_clashes cX5_clashes 1 (some .int), Cond.methodLink RX5 138 yX5_clashesOf, Cond.instanceMethod yX5_clashesOf, Cond.selects RX5 yX5_clashesOf yX5_clashesOf, Cond.code yX5_clashesOf cX5_clashesOf 6 (some .int), Cond.methodLink RX5 134 yX5_clashesOn, Cond.instanceMethod yX5_clashesOn, Cond.selects RX5 yX5_clashesOn yX5_clashesOn, Cond.code yX5_clashesOn cX5_clashesOn 5 (some .int), Cond.methodLink RX5 130 yX5_same, Cond.static yX5_same, Cond.code yX5_same cX5_same 3 (some .int)]
def wsX5_turn : List Cond := .code yX5_turn cX5_turn 3 (some .int) :: ((wsX5_turn_r1 ++ wsX5_turn_r2) ++ wsX50)
def wsX5_painted : List Cond := .code yX5_painted cX5_painted 3 (some .int) :: ([])
def wsX5_paint : List Cond := .code yX5_paint cX5_paint 5 (some .int) :: ([.fieldLink RX5 13 "CubeTowerModel" "lies" "[I", .methodLink RX5 123 yX5_isCube, .instanceMethod yX5_isCube, .selects RX5 yX5_isCube yX5_isCube, .initialized RX5, .code yX5_isCube cX5_isCube 2 (some .boolean), .fieldLink RX5 88 "CubeTowerModel" "cubes" "I", .methodLink RX5 59 yX5_within, .static yX5_within, .code yX5_within cX5_within 3 (some .boolean), .methodLink RX5 100 yX5_side, .static yX5_side, .code yX5_side cX5_side 2 (some .int), .methodLink RX5 154 yX5_painted, .static yX5_painted, .code yX5_painted cX5_painted 3 (some .int)] ++ wsX50)
def wsX5_swap_r1 : List Cond := [Cond.fieldLink RX5 7 "CubeTowerModel" "kindOf" "[I", Cond.fieldLink RX5 13 "CubeTowerModel" "lies" "[I", Cond.methodLink RX5 123 yX5_isCube, Cond.instanceMethod yX5_isCube, Cond.selects RX5 yX5_isCube yX5_isCube, Cond.initialized RX5, Cond.code yX5_isCube cX5_isCube 2 (some .boolean), Cond.fieldLink RX5 88 "CubeTowerModel" "cubes" "I", Cond.methodLink RX5 59 yX5_within, Cond.static yX5_within, Cond.code yX5_within cX5_within 3 (some .boolean), Cond.methodLink RX5 151 yX5_clashes, Cond.instanceMethod yX5_clashes, Cond.selects RX5 yX5_clashes yX5_clashes, Cond.code yX5_clashes cX5_clashes 1 (some .int), Cond.methodLink RX5 138 yX5_clashesOf, Cond.instanceMethod yX5_clashesOf, Cond.selects RX5 yX5_clashesOf yX5_clashesOf, Cond.code yX5_clashesOf cX5_clashesOf 6 (some .int), Cond.methodLink RX5 134 yX5_clashesOn, Cond.instanceMethod yX5_clashesOn, Cond.selects RX5 yX5_clashesOn yX5_clashesOn, Cond.code yX5_clashesOn cX5_clashesOn 5 (some .int), Cond.methodLink RX5 130 yX5_same]
def wsX5_swap_r2 : List Cond := [Cond.static yX5_same, Cond.code yX5_same cX5_same 3 (some .int), Cond.methodLink RX5 100 yX5_side, Cond.static yX5_side, Cond.code yX5_side cX5_side 2 (some .int)]
def wsX5_swap : List Cond := .code yX5_swap cX5_swap 5 (some .int) :: ((wsX5_swap_r1 ++ wsX5_swap_r2) ++ wsX50)
def wsX5_be : List Cond := .code yX5_be cX5_be 4 (some .int) :: ([.fieldLink RX5 7 "CubeTowerModel" "kindOf" "[I", .methodLink RX5 123 yX5_isCube, .instanceMethod yX5_isCube, .selects RX5 yX5_isCube yX5_isCube, .initialized RX5, .code yX5_isCube cX5_isCube 2 (some .boolean), .fieldLink RX5 88 "CubeTowerModel" "cubes" "I", .methodLink RX5 59 yX5_within, .static yX5_within, .code yX5_within cX5_within 3 (some .boolean)] ++ wsX50)
def wsX5_take : List Cond := .code yX5_take cX5_take 5 none :: ([.fieldLink RX5 35 "CubeTowerModel" "manyOf" "[I", .fieldLink RX5 29 "CubeTowerModel" "wayOf" "[I", .fieldLink RX5 32 "CubeTowerModel" "farOf" "[I"] ++ wsX50)
def wsX5_layWays_r1 : List Cond := [Cond.fieldLink RX5 35 "CubeTowerModel" "manyOf" "[I", Cond.fieldLink RX5 7 "CubeTowerModel" "kindOf" "[I", Cond.fieldLink RX5 29 "CubeTowerModel" "wayOf" "[I", Cond.fieldLink RX5 32 "CubeTowerModel" "farOf" "[I", Cond.methodLink RX5 157 yX5_take, Cond.instanceMethod yX5_take, Cond.selects RX5 yX5_take yX5_take, Cond.initialized RX5, Cond.code yX5_take cX5_take 5 none, Cond.methodLink RX5 120 yX5_turnsOf, Cond.static yX5_turnsOf, Cond.code yX5_turnsOf cX5_turnsOf 1 (some .int), Cond.methodLink RX5 144 yX5_isIn, Cond.static yX5_isIn, Cond.code yX5_isIn cX5_isIn 2 (some .boolean), Cond.methodLink RX5 148 yX5_turned, Cond.static yX5_turned, Cond.code yX5_turned cX5_turned 4 (some .int), Cond.methodLink RX5 108 yX5_quarter, Cond.static yX5_quarter, Cond.code yX5_quarter cX5_quarter 2 (some .int), Cond.methodLink RX5 104 yX5_ring, Cond.static yX5_ring, Cond.code yX5_ring cX5_ring 6 (some .int)]
def wsX5_layWays_r2 : List Cond := [Cond.methodLink RX5 100 yX5_side, Cond.static yX5_side, Cond.code yX5_side cX5_side 2 (some .int)]
def wsX5_layWays : List Cond := .code yX5_layWays cX5_layWays 5 none :: ((wsX5_layWays_r1 ++ wsX5_layWays_r2) ++ wsX50)
def wsX5_laid : List Cond := .code yX5_laid cX5_laid 4 (some .int) :: ([.methodLink RX5 100 yX5_side, .static yX5_side, .initialized RX5, .code yX5_side cX5_side 2 (some .int)])
def wsX5_layColours : List Cond := .code yX5_layColours cX5_layColours 3 none :: ([.fieldLink RX5 35 "CubeTowerModel" "manyOf" "[I", .fieldLink RX5 38 "CubeTowerModel" "colourOf" "[I", .fieldLink RX5 13 "CubeTowerModel" "lies" "[I", .fieldLink RX5 29 "CubeTowerModel" "wayOf" "[I", .methodLink RX5 161 yX5_laid, .static yX5_laid, .initialized RX5, .code yX5_laid cX5_laid 4 (some .int), .methodLink RX5 100 yX5_side, .static yX5_side, .code yX5_side cX5_side 2 (some .int)] ++ wsX50)
def wsX5_layAll_r1 : List Cond := [Cond.fieldLink RX5 35 "CubeTowerModel" "manyOf" "[I", Cond.fieldLink RX5 88 "CubeTowerModel" "cubes" "I", Cond.constant RX5 164 (181896), Cond.methodLink RX5 165 yX5_layWays, Cond.instanceMethod yX5_layWays, Cond.selects RX5 yX5_layWays yX5_layWays, Cond.initialized RX5, Cond.code yX5_layWays cX5_layWays 5 none, Cond.fieldLink RX5 7 "CubeTowerModel" "kindOf" "[I", Cond.fieldLink RX5 29 "CubeTowerModel" "wayOf" "[I", Cond.fieldLink RX5 32 "CubeTowerModel" "farOf" "[I", Cond.methodLink RX5 157 yX5_take, Cond.instanceMethod yX5_take, Cond.selects RX5 yX5_take yX5_take, Cond.code yX5_take cX5_take 5 none, Cond.methodLink RX5 120 yX5_turnsOf, Cond.static yX5_turnsOf, Cond.code yX5_turnsOf cX5_turnsOf 1 (some .int), Cond.methodLink RX5 144 yX5_isIn, Cond.static yX5_isIn, Cond.code yX5_isIn cX5_isIn 2 (some .boolean), Cond.methodLink RX5 148 yX5_turned, Cond.static yX5_turned, Cond.code yX5_turned cX5_turned 4 (some .int)]
def wsX5_layAll_r2 : List Cond := [Cond.methodLink RX5 108 yX5_quarter, Cond.static yX5_quarter, Cond.code yX5_quarter cX5_quarter 2 (some .int), Cond.methodLink RX5 104 yX5_ring, Cond.static yX5_ring, Cond.code yX5_ring cX5_ring 6 (some .int), Cond.methodLink RX5 100 yX5_side, Cond.static yX5_side, Cond.code yX5_side cX5_side 2 (some .int), Cond.methodLink RX5 169 yX5_layColours, Cond.instanceMethod yX5_layColours, Cond.selects RX5 yX5_layColours yX5_layColours, Cond.code yX5_layColours cX5_layColours 3 none, Cond.fieldLink RX5 38 "CubeTowerModel" "colourOf" "[I", Cond.fieldLink RX5 13 "CubeTowerModel" "lies" "[I", Cond.methodLink RX5 161 yX5_laid, Cond.static yX5_laid, Cond.code yX5_laid cX5_laid 4 (some .int)]
def wsX5_layAll : List Cond := .code yX5_layAll cX5_layAll 2 none :: ((wsX5_layAll_r1 ++ wsX5_layAll_r2) ++ wsX50)
def wsX5_all : List Cond := .code yX5_all cX5_all 3 (some .int) :: ([.fieldLink RX5 88 "CubeTowerModel" "cubes" "I", .fieldLink RX5 35 "CubeTowerModel" "manyOf" "[I"] ++ wsX50)
def wsX5_first : List Cond := .code yX5_first cX5_first 2 (some .int) :: ([.fieldLink RX5 35 "CubeTowerModel" "manyOf" "[I"] ++ wsX50)
def wsX5_second : List Cond := .code yX5_second cX5_second 2 (some .int) :: ([.fieldLink RX5 35 "CubeTowerModel" "manyOf" "[I"] ++ wsX50)
def wsX5_third : List Cond := .code yX5_third cX5_third 2 (some .int) :: ([.fieldLink RX5 35 "CubeTowerModel" "manyOf" "[I"] ++ wsX50)
def wsX5_clashesBy_r1 : List Cond := [Cond.fieldLink RX5 38 "CubeTowerModel" "colourOf" "[I", Cond.methodLink RX5 173 yX5_first, Cond.instanceMethod yX5_first, Cond.selects RX5 yX5_first yX5_first, Cond.initialized RX5, Cond.code yX5_first cX5_first 2 (some .int), Cond.fieldLink RX5 35 "CubeTowerModel" "manyOf" "[I", Cond.methodLink RX5 176 yX5_second, Cond.instanceMethod yX5_second, Cond.selects RX5 yX5_second yX5_second, Cond.code yX5_second cX5_second 2 (some .int), Cond.methodLink RX5 179 yX5_third, Cond.instanceMethod yX5_third, Cond.selects RX5 yX5_third yX5_third, Cond.code yX5_third cX5_third 2 (some .int), Cond.methodLink RX5 138 yX5_clashesOf, Cond.instanceMethod yX5_clashesOf, Cond.selects RX5 yX5_clashesOf yX5_clashesOf, Cond.code yX5_clashesOf cX5_clashesOf 6 (some .int), Cond.methodLink RX5 134 yX5_clashesOn, Cond.instanceMethod yX5_clashesOn, Cond.selects RX5 yX5_clashesOn yX5_clashesOn, Cond.code yX5_clashesOn cX5_clashesOn 5 (some .int), Cond.fieldLink RX5 88 "CubeTowerModel" "cubes" "I"]
def wsX5_clashesBy_r2 : List Cond := [Cond.methodLink RX5 130 yX5_same, Cond.static yX5_same, Cond.code yX5_same cX5_same 3 (some .int), Cond.methodLink RX5 100 yX5_side, Cond.static yX5_side, Cond.code yX5_side cX5_side 2 (some .int)]
def wsX5_clashesBy : List Cond := .code yX5_clashesBy cX5_clashesBy 2 (some .int) :: ((wsX5_clashesBy_r1 ++ wsX5_clashesBy_r2) ++ wsX50)
def wsX5_solutions_r1 : List Cond := [Cond.methodLink RX5 182 yX5_all, Cond.instanceMethod yX5_all, Cond.selects RX5 yX5_all yX5_all, Cond.initialized RX5, Cond.code yX5_all cX5_all 3 (some .int), Cond.fieldLink RX5 88 "CubeTowerModel" "cubes" "I", Cond.fieldLink RX5 35 "CubeTowerModel" "manyOf" "[I", Cond.methodLink RX5 185 yX5_clashesBy, Cond.instanceMethod yX5_clashesBy, Cond.selects RX5 yX5_clashesBy yX5_clashesBy, Cond.code yX5_clashesBy cX5_clashesBy 2 (some .int), Cond.fieldLink RX5 38 "CubeTowerModel" "colourOf" "[I", Cond.methodLink RX5 173 yX5_first, Cond.instanceMethod yX5_first, Cond.selects RX5 yX5_first yX5_first, Cond.code yX5_first cX5_first 2 (some .int), Cond.methodLink RX5 176 yX5_second, Cond.instanceMethod yX5_second, Cond.selects RX5 yX5_second yX5_second, Cond.code yX5_second cX5_second 2 (some .int), Cond.methodLink RX5 179 yX5_third, Cond.instanceMethod yX5_third, Cond.selects RX5 yX5_third yX5_third, Cond.code yX5_third cX5_third 2 (some .int)]
def wsX5_solutions_r2 : List Cond := [Cond.methodLink RX5 138 yX5_clashesOf, Cond.instanceMethod yX5_clashesOf, Cond.selects RX5 yX5_clashesOf yX5_clashesOf, Cond.code yX5_clashesOf cX5_clashesOf 6 (some .int), Cond.methodLink RX5 134 yX5_clashesOn, Cond.instanceMethod yX5_clashesOn, Cond.selects RX5 yX5_clashesOn yX5_clashesOn, Cond.code yX5_clashesOn cX5_clashesOn 5 (some .int), Cond.methodLink RX5 130 yX5_same, Cond.static yX5_same, Cond.code yX5_same cX5_same 3 (some .int), Cond.methodLink RX5 100 yX5_side, Cond.static yX5_side, Cond.code yX5_side cX5_side 2 (some .int)]
def wsX5_solutions : List Cond := .code yX5_solutions cX5_solutions 3 (some .int) :: ((wsX5_solutions_r1 ++ wsX5_solutions_r2) ++ wsX50)
def wsX5_leastClashes_r1 : List Cond := [Cond.constant RX5 188 (1048576), Cond.methodLink RX5 182 yX5_all, Cond.instanceMethod yX5_all, Cond.selects RX5 yX5_all yX5_all, Cond.initialized RX5, Cond.code yX5_all cX5_all 3 (some .int), Cond.fieldLink RX5 88 "CubeTowerModel" "cubes" "I", Cond.fieldLink RX5 35 "CubeTowerModel" "manyOf" "[I", Cond.methodLink RX5 185 yX5_clashesBy, Cond.instanceMethod yX5_clashesBy, Cond.selects RX5 yX5_clashesBy yX5_clashesBy, Cond.code yX5_clashesBy cX5_clashesBy 2 (some .int), Cond.fieldLink RX5 38 "CubeTowerModel" "colourOf" "[I", Cond.methodLink RX5 173 yX5_first, Cond.instanceMethod yX5_first, Cond.selects RX5 yX5_first yX5_first, Cond.code yX5_first cX5_first 2 (some .int), Cond.methodLink RX5 176 yX5_second, Cond.instanceMethod yX5_second, Cond.selects RX5 yX5_second yX5_second, Cond.code yX5_second cX5_second 2 (some .int), Cond.methodLink RX5 179 yX5_third, Cond.instanceMethod yX5_third, Cond.selects RX5 yX5_third yX5_third]
def wsX5_leastClashes_r2 : List Cond := [Cond.code yX5_third cX5_third 2 (some .int), Cond.methodLink RX5 138 yX5_clashesOf, Cond.instanceMethod yX5_clashesOf, Cond.selects RX5 yX5_clashesOf yX5_clashesOf, Cond.code yX5_clashesOf cX5_clashesOf 6 (some .int), Cond.methodLink RX5 134 yX5_clashesOn, Cond.instanceMethod yX5_clashesOn, Cond.selects RX5 yX5_clashesOn yX5_clashesOn, Cond.code yX5_clashesOn cX5_clashesOn 5 (some .int), Cond.methodLink RX5 130 yX5_same, Cond.static yX5_same, Cond.code yX5_same cX5_same 3 (some .int), Cond.methodLink RX5 100 yX5_side, Cond.static yX5_side, Cond.code yX5_side cX5_side 2 (some .int)]
def wsX5_leastClashes : List Cond := .code yX5_leastClashes cX5_leastClashes 3 (some .int) :: ((wsX5_leastClashes_r1 ++ wsX5_leastClashes_r2) ++ wsX50)
def wsX5_waysNow_r1 : List Cond := [Cond.methodLink RX5 189 yX5_layAll, Cond.instanceMethod yX5_layAll, Cond.selects RX5 yX5_layAll yX5_layAll, Cond.initialized RX5, Cond.code yX5_layAll cX5_layAll 2 none, Cond.fieldLink RX5 35 "CubeTowerModel" "manyOf" "[I", Cond.fieldLink RX5 88 "CubeTowerModel" "cubes" "I", Cond.constant RX5 164 (181896), Cond.methodLink RX5 165 yX5_layWays, Cond.instanceMethod yX5_layWays, Cond.selects RX5 yX5_layWays yX5_layWays, Cond.code yX5_layWays cX5_layWays 5 none, Cond.fieldLink RX5 7 "CubeTowerModel" "kindOf" "[I", Cond.fieldLink RX5 29 "CubeTowerModel" "wayOf" "[I", Cond.fieldLink RX5 32 "CubeTowerModel" "farOf" "[I", Cond.methodLink RX5 157 yX5_take, Cond.instanceMethod yX5_take, Cond.selects RX5 yX5_take yX5_take, Cond.code yX5_take cX5_take 5 none, Cond.methodLink RX5 120 yX5_turnsOf, Cond.static yX5_turnsOf, Cond.code yX5_turnsOf cX5_turnsOf 1 (some .int), Cond.methodLink RX5 144 yX5_isIn, Cond.static yX5_isIn]
def wsX5_waysNow_r2 : List Cond := [Cond.code yX5_isIn cX5_isIn 2 (some .boolean), Cond.methodLink RX5 148 yX5_turned, Cond.static yX5_turned, Cond.code yX5_turned cX5_turned 4 (some .int), Cond.methodLink RX5 108 yX5_quarter, Cond.static yX5_quarter, Cond.code yX5_quarter cX5_quarter 2 (some .int), Cond.methodLink RX5 104 yX5_ring, Cond.static yX5_ring, Cond.code yX5_ring cX5_ring 6 (some .int), Cond.methodLink RX5 100 yX5_side, Cond.static yX5_side, Cond.code yX5_side cX5_side 2 (some .int), Cond.methodLink RX5 169 yX5_layColours, Cond.instanceMethod yX5_layColours, Cond.selects RX5 yX5_layColours yX5_layColours, Cond.code yX5_layColours cX5_layColours 3 none, Cond.fieldLink RX5 38 "CubeTowerModel" "colourOf" "[I", Cond.fieldLink RX5 13 "CubeTowerModel" "lies" "[I", Cond.methodLink RX5 161 yX5_laid, Cond.static yX5_laid, Cond.code yX5_laid cX5_laid 4 (some .int), Cond.methodLink RX5 192 yX5_solutions, Cond.instanceMethod yX5_solutions]
def wsX5_waysNow_r3 : List Cond := [Cond.selects RX5 yX5_solutions yX5_solutions, Cond.code yX5_solutions cX5_solutions 3 (some .int), Cond.methodLink RX5 182 yX5_all, Cond.instanceMethod yX5_all, Cond.selects RX5 yX5_all yX5_all, Cond.code yX5_all cX5_all 3 (some .int), Cond.methodLink RX5 185 yX5_clashesBy, Cond.instanceMethod yX5_clashesBy, Cond.selects RX5 yX5_clashesBy yX5_clashesBy, Cond.code yX5_clashesBy cX5_clashesBy 2 (some .int), Cond.methodLink RX5 173 yX5_first, Cond.instanceMethod yX5_first, Cond.selects RX5 yX5_first yX5_first, Cond.code yX5_first cX5_first 2 (some .int), Cond.methodLink RX5 176 yX5_second, Cond.instanceMethod yX5_second, Cond.selects RX5 yX5_second yX5_second, Cond.code yX5_second cX5_second 2 (some .int), Cond.methodLink RX5 179 yX5_third, Cond.instanceMethod yX5_third, Cond.selects RX5 yX5_third yX5_third, Cond.code yX5_third cX5_third 2 (some .int), Cond.methodLink RX5 138 yX5_clashesOf, Cond.instanceMethod yX5_clashesOf]
def wsX5_waysNow_r4 : List Cond := [Cond.selects RX5 yX5_clashesOf yX5_clashesOf, Cond.code yX5_clashesOf cX5_clashesOf 6 (some .int), Cond.methodLink RX5 134 yX5_clashesOn, Cond.instanceMethod yX5_clashesOn, Cond.selects RX5 yX5_clashesOn yX5_clashesOn, Cond.code yX5_clashesOn cX5_clashesOn 5 (some .int), Cond.methodLink RX5 130 yX5_same, Cond.static yX5_same, Cond.code yX5_same cX5_same 3 (some .int), Cond.methodLink RX5 195 yX5_leastClashes, Cond.instanceMethod yX5_leastClashes, Cond.selects RX5 yX5_leastClashes yX5_leastClashes, Cond.code yX5_leastClashes cX5_leastClashes 3 (some .int), Cond.constant RX5 188 (1048576)]
def wsX5_waysNow : List Cond := .code yX5_waysNow cX5_waysNow 2 (some .int) :: ((wsX5_waysNow_r1 ++ (wsX5_waysNow_r2 ++ (wsX5_waysNow_r3 ++ wsX5_waysNow_r4))) ++ wsX50)
def wsX5_ways_r1 : List Cond := [Cond.fieldLink RX5 88 "CubeTowerModel" "cubes" "I", Cond.methodLink RX5 59 yX5_within, Cond.static yX5_within, Cond.initialized RX5, Cond.code yX5_within cX5_within 3 (some .boolean), Cond.methodLink RX5 198 yX5_waysNow, Cond.instanceMethod yX5_waysNow, Cond.selects RX5 yX5_waysNow yX5_waysNow, Cond.code yX5_waysNow cX5_waysNow 2 (some .int), Cond.methodLink RX5 189 yX5_layAll, Cond.instanceMethod yX5_layAll, Cond.selects RX5 yX5_layAll yX5_layAll, Cond.code yX5_layAll cX5_layAll 2 none, Cond.fieldLink RX5 35 "CubeTowerModel" "manyOf" "[I", Cond.constant RX5 164 (181896), Cond.methodLink RX5 165 yX5_layWays, Cond.instanceMethod yX5_layWays, Cond.selects RX5 yX5_layWays yX5_layWays, Cond.code yX5_layWays cX5_layWays 5 none, Cond.fieldLink RX5 7 "CubeTowerModel" "kindOf" "[I", Cond.fieldLink RX5 29 "CubeTowerModel" "wayOf" "[I", Cond.fieldLink RX5 32 "CubeTowerModel" "farOf" "[I", Cond.methodLink RX5 157 yX5_take, Cond.instanceMethod yX5_take]
def wsX5_ways_r2 : List Cond := [Cond.selects RX5 yX5_take yX5_take, Cond.code yX5_take cX5_take 5 none, Cond.methodLink RX5 120 yX5_turnsOf, Cond.static yX5_turnsOf, Cond.code yX5_turnsOf cX5_turnsOf 1 (some .int), Cond.methodLink RX5 144 yX5_isIn, Cond.static yX5_isIn, Cond.code yX5_isIn cX5_isIn 2 (some .boolean), Cond.methodLink RX5 148 yX5_turned, Cond.static yX5_turned, Cond.code yX5_turned cX5_turned 4 (some .int), Cond.methodLink RX5 108 yX5_quarter, Cond.static yX5_quarter, Cond.code yX5_quarter cX5_quarter 2 (some .int), Cond.methodLink RX5 104 yX5_ring, Cond.static yX5_ring, Cond.code yX5_ring cX5_ring 6 (some .int), Cond.methodLink RX5 100 yX5_side, Cond.static yX5_side, Cond.code yX5_side cX5_side 2 (some .int), Cond.methodLink RX5 169 yX5_layColours, Cond.instanceMethod yX5_layColours, Cond.selects RX5 yX5_layColours yX5_layColours, Cond.code yX5_layColours cX5_layColours 3 none]
def wsX5_ways_r3 : List Cond := [Cond.fieldLink RX5 38 "CubeTowerModel" "colourOf" "[I", Cond.fieldLink RX5 13 "CubeTowerModel" "lies" "[I", Cond.methodLink RX5 161 yX5_laid, Cond.static yX5_laid, Cond.code yX5_laid cX5_laid 4 (some .int), Cond.methodLink RX5 192 yX5_solutions, Cond.instanceMethod yX5_solutions, Cond.selects RX5 yX5_solutions yX5_solutions, Cond.code yX5_solutions cX5_solutions 3 (some .int), Cond.methodLink RX5 182 yX5_all, Cond.instanceMethod yX5_all, Cond.selects RX5 yX5_all yX5_all, Cond.code yX5_all cX5_all 3 (some .int), Cond.methodLink RX5 185 yX5_clashesBy, Cond.instanceMethod yX5_clashesBy, Cond.selects RX5 yX5_clashesBy yX5_clashesBy, Cond.code yX5_clashesBy cX5_clashesBy 2 (some .int), Cond.methodLink RX5 173 yX5_first, Cond.instanceMethod yX5_first, Cond.selects RX5 yX5_first yX5_first, Cond.code yX5_first cX5_first 2 (some .int), Cond.methodLink RX5 176 yX5_second, Cond.instanceMethod yX5_second, Cond.selects RX5 yX5_second yX5_second]
def wsX5_ways_r4 : List Cond := [Cond.code yX5_second cX5_second 2 (some .int), Cond.methodLink RX5 179 yX5_third, Cond.instanceMethod yX5_third, Cond.selects RX5 yX5_third yX5_third, Cond.code yX5_third cX5_third 2 (some .int), Cond.methodLink RX5 138 yX5_clashesOf, Cond.instanceMethod yX5_clashesOf, Cond.selects RX5 yX5_clashesOf yX5_clashesOf, Cond.code yX5_clashesOf cX5_clashesOf 6 (some .int), Cond.methodLink RX5 134 yX5_clashesOn, Cond.instanceMethod yX5_clashesOn, Cond.selects RX5 yX5_clashesOn yX5_clashesOn, Cond.code yX5_clashesOn cX5_clashesOn 5 (some .int), Cond.methodLink RX5 130 yX5_same, Cond.static yX5_same, Cond.code yX5_same cX5_same 3 (some .int), Cond.methodLink RX5 195 yX5_leastClashes, Cond.instanceMethod yX5_leastClashes, Cond.selects RX5 yX5_leastClashes yX5_leastClashes, Cond.code yX5_leastClashes cX5_leastClashes 3 (some .int), Cond.constant RX5 188 (1048576)]
def wsX5_ways : List Cond := .code yX5_ways cX5_ways 2 (some .int) :: ((wsX5_ways_r1 ++ (wsX5_ways_r2 ++ (wsX5_ways_r3 ++ wsX5_ways_r4))) ++ wsX50)
def wsX5_farBy : List Cond := .code yX5_farBy cX5_farBy 2 (some .int) :: ([.fieldLink RX5 32 "CubeTowerModel" "farOf" "[I", .fieldLink RX5 88 "CubeTowerModel" "cubes" "I", .methodLink RX5 173 yX5_first, .instanceMethod yX5_first, .selects RX5 yX5_first yX5_first, .initialized RX5, .code yX5_first cX5_first 2 (some .int), .fieldLink RX5 35 "CubeTowerModel" "manyOf" "[I", .methodLink RX5 176 yX5_second, .instanceMethod yX5_second, .selects RX5 yX5_second yX5_second, .code yX5_second cX5_second 2 (some .int), .methodLink RX5 179 yX5_third, .instanceMethod yX5_third, .selects RX5 yX5_third yX5_third, .code yX5_third cX5_third 2 (some .int)] ++ wsX50)
def wsX5_fewestTurns_r1 : List Cond := [Cond.constant RX5 188 (1048576), Cond.methodLink RX5 182 yX5_all, Cond.instanceMethod yX5_all, Cond.selects RX5 yX5_all yX5_all, Cond.initialized RX5, Cond.code yX5_all cX5_all 3 (some .int), Cond.fieldLink RX5 88 "CubeTowerModel" "cubes" "I", Cond.fieldLink RX5 35 "CubeTowerModel" "manyOf" "[I", Cond.methodLink RX5 185 yX5_clashesBy, Cond.instanceMethod yX5_clashesBy, Cond.selects RX5 yX5_clashesBy yX5_clashesBy, Cond.code yX5_clashesBy cX5_clashesBy 2 (some .int), Cond.fieldLink RX5 38 "CubeTowerModel" "colourOf" "[I", Cond.methodLink RX5 173 yX5_first, Cond.instanceMethod yX5_first, Cond.selects RX5 yX5_first yX5_first, Cond.code yX5_first cX5_first 2 (some .int), Cond.methodLink RX5 176 yX5_second, Cond.instanceMethod yX5_second, Cond.selects RX5 yX5_second yX5_second, Cond.code yX5_second cX5_second 2 (some .int), Cond.methodLink RX5 179 yX5_third, Cond.instanceMethod yX5_third, Cond.selects RX5 yX5_third yX5_third]
def wsX5_fewestTurns_r2 : List Cond := [Cond.code yX5_third cX5_third 2 (some .int), Cond.methodLink RX5 138 yX5_clashesOf, Cond.instanceMethod yX5_clashesOf, Cond.selects RX5 yX5_clashesOf yX5_clashesOf, Cond.code yX5_clashesOf cX5_clashesOf 6 (some .int), Cond.methodLink RX5 134 yX5_clashesOn, Cond.instanceMethod yX5_clashesOn, Cond.selects RX5 yX5_clashesOn yX5_clashesOn, Cond.code yX5_clashesOn cX5_clashesOn 5 (some .int), Cond.methodLink RX5 130 yX5_same, Cond.static yX5_same, Cond.code yX5_same cX5_same 3 (some .int), Cond.methodLink RX5 100 yX5_side, Cond.static yX5_side, Cond.code yX5_side cX5_side 2 (some .int), Cond.methodLink RX5 201 yX5_farBy, Cond.instanceMethod yX5_farBy, Cond.selects RX5 yX5_farBy yX5_farBy, Cond.code yX5_farBy cX5_farBy 2 (some .int), Cond.fieldLink RX5 32 "CubeTowerModel" "farOf" "[I"]
def wsX5_fewestTurns : List Cond := .code yX5_fewestTurns cX5_fewestTurns 3 (some .int) :: ((wsX5_fewestTurns_r1 ++ wsX5_fewestTurns_r2) ++ wsX50)
def wsX5_firstTurn_r1 : List Cond := [Cond.fieldLink RX5 88 "CubeTowerModel" "cubes" "I", Cond.fieldLink RX5 7 "CubeTowerModel" "kindOf" "[I", Cond.constant RX5 164 (181896), Cond.methodLink RX5 120 yX5_turnsOf, Cond.static yX5_turnsOf, Cond.initialized RX5, Cond.code yX5_turnsOf cX5_turnsOf 1 (some .int), Cond.methodLink RX5 144 yX5_isIn, Cond.static yX5_isIn, Cond.code yX5_isIn cX5_isIn 2 (some .boolean), Cond.methodLink RX5 148 yX5_turned, Cond.static yX5_turned, Cond.code yX5_turned cX5_turned 4 (some .int), Cond.methodLink RX5 108 yX5_quarter, Cond.static yX5_quarter, Cond.code yX5_quarter cX5_quarter 2 (some .int), Cond.methodLink RX5 104 yX5_ring, Cond.static yX5_ring, Cond.code yX5_ring cX5_ring 6 (some .int), Cond.methodLink RX5 100 yX5_side, Cond.static yX5_side, Cond.code yX5_side cX5_side 2 (some .int), Cond.methodLink RX5 165 yX5_layWays, Cond.instanceMethod yX5_layWays]
def wsX5_firstTurn_r2 : List Cond := [Cond.selects RX5 yX5_layWays yX5_layWays, Cond.code yX5_layWays cX5_layWays 5 none, Cond.fieldLink RX5 35 "CubeTowerModel" "manyOf" "[I", Cond.fieldLink RX5 29 "CubeTowerModel" "wayOf" "[I", Cond.fieldLink RX5 32 "CubeTowerModel" "farOf" "[I", Cond.methodLink RX5 157 yX5_take, Cond.instanceMethod yX5_take, Cond.selects RX5 yX5_take yX5_take, Cond.code yX5_take cX5_take 5 none, Cond.methodLink RX5 169 yX5_layColours, Cond.instanceMethod yX5_layColours, Cond.selects RX5 yX5_layColours yX5_layColours, Cond.code yX5_layColours cX5_layColours 3 none, Cond.fieldLink RX5 38 "CubeTowerModel" "colourOf" "[I", Cond.fieldLink RX5 13 "CubeTowerModel" "lies" "[I", Cond.methodLink RX5 161 yX5_laid, Cond.static yX5_laid, Cond.code yX5_laid cX5_laid 4 (some .int), Cond.methodLink RX5 204 yX5_fewestTurns, Cond.instanceMethod yX5_fewestTurns, Cond.selects RX5 yX5_fewestTurns yX5_fewestTurns, Cond.code yX5_fewestTurns cX5_fewestTurns 3 (some .int), Cond.constant RX5 188 (1048576), Cond.methodLink RX5 182 yX5_all]
def wsX5_firstTurn_r3 : List Cond := [Cond.instanceMethod yX5_all, Cond.selects RX5 yX5_all yX5_all, Cond.code yX5_all cX5_all 3 (some .int), Cond.methodLink RX5 185 yX5_clashesBy, Cond.instanceMethod yX5_clashesBy, Cond.selects RX5 yX5_clashesBy yX5_clashesBy, Cond.code yX5_clashesBy cX5_clashesBy 2 (some .int), Cond.methodLink RX5 173 yX5_first, Cond.instanceMethod yX5_first, Cond.selects RX5 yX5_first yX5_first, Cond.code yX5_first cX5_first 2 (some .int), Cond.methodLink RX5 176 yX5_second, Cond.instanceMethod yX5_second, Cond.selects RX5 yX5_second yX5_second, Cond.code yX5_second cX5_second 2 (some .int), Cond.methodLink RX5 179 yX5_third, Cond.instanceMethod yX5_third, Cond.selects RX5 yX5_third yX5_third, Cond.code yX5_third cX5_third 2 (some .int), Cond.methodLink RX5 138 yX5_clashesOf, Cond.instanceMethod yX5_clashesOf, Cond.selects RX5 yX5_clashesOf yX5_clashesOf, Cond.code yX5_clashesOf cX5_clashesOf 6 (some .int), Cond.methodLink RX5 134 yX5_clashesOn]
def wsX5_firstTurn_r4 : List Cond := [Cond.instanceMethod yX5_clashesOn, Cond.selects RX5 yX5_clashesOn yX5_clashesOn, Cond.code yX5_clashesOn cX5_clashesOn 5 (some .int), Cond.methodLink RX5 130 yX5_same, Cond.static yX5_same, Cond.code yX5_same cX5_same 3 (some .int), Cond.methodLink RX5 201 yX5_farBy, Cond.instanceMethod yX5_farBy, Cond.selects RX5 yX5_farBy yX5_farBy, Cond.code yX5_farBy cX5_farBy 2 (some .int)]
def wsX5_firstTurn : List Cond := .code yX5_firstTurn cX5_firstTurn 5 (some .int) :: ((wsX5_firstTurn_r1 ++ (wsX5_firstTurn_r2 ++ (wsX5_firstTurn_r3 ++ wsX5_firstTurn_r4))) ++ wsX50)
def wsX5_turningNow_r1 : List Cond := [Cond.constant RX5 188 (1048576), Cond.methodLink RX5 189 yX5_layAll, Cond.instanceMethod yX5_layAll, Cond.selects RX5 yX5_layAll yX5_layAll, Cond.initialized RX5, Cond.code yX5_layAll cX5_layAll 2 none, Cond.fieldLink RX5 35 "CubeTowerModel" "manyOf" "[I", Cond.fieldLink RX5 88 "CubeTowerModel" "cubes" "I", Cond.constant RX5 164 (181896), Cond.methodLink RX5 165 yX5_layWays, Cond.instanceMethod yX5_layWays, Cond.selects RX5 yX5_layWays yX5_layWays, Cond.code yX5_layWays cX5_layWays 5 none, Cond.fieldLink RX5 7 "CubeTowerModel" "kindOf" "[I", Cond.fieldLink RX5 29 "CubeTowerModel" "wayOf" "[I", Cond.fieldLink RX5 32 "CubeTowerModel" "farOf" "[I", Cond.methodLink RX5 157 yX5_take, Cond.instanceMethod yX5_take, Cond.selects RX5 yX5_take yX5_take, Cond.code yX5_take cX5_take 5 none, Cond.methodLink RX5 120 yX5_turnsOf, Cond.static yX5_turnsOf, Cond.code yX5_turnsOf cX5_turnsOf 1 (some .int), Cond.methodLink RX5 144 yX5_isIn]
def wsX5_turningNow_r2 : List Cond := [Cond.static yX5_isIn, Cond.code yX5_isIn cX5_isIn 2 (some .boolean), Cond.methodLink RX5 148 yX5_turned, Cond.static yX5_turned, Cond.code yX5_turned cX5_turned 4 (some .int), Cond.methodLink RX5 108 yX5_quarter, Cond.static yX5_quarter, Cond.code yX5_quarter cX5_quarter 2 (some .int), Cond.methodLink RX5 104 yX5_ring, Cond.static yX5_ring, Cond.code yX5_ring cX5_ring 6 (some .int), Cond.methodLink RX5 100 yX5_side, Cond.static yX5_side, Cond.code yX5_side cX5_side 2 (some .int), Cond.methodLink RX5 169 yX5_layColours, Cond.instanceMethod yX5_layColours, Cond.selects RX5 yX5_layColours yX5_layColours, Cond.code yX5_layColours cX5_layColours 3 none, Cond.fieldLink RX5 38 "CubeTowerModel" "colourOf" "[I", Cond.fieldLink RX5 13 "CubeTowerModel" "lies" "[I", Cond.methodLink RX5 161 yX5_laid, Cond.static yX5_laid, Cond.code yX5_laid cX5_laid 4 (some .int), Cond.methodLink RX5 204 yX5_fewestTurns]
def wsX5_turningNow_r3 : List Cond := [Cond.instanceMethod yX5_fewestTurns, Cond.selects RX5 yX5_fewestTurns yX5_fewestTurns, Cond.code yX5_fewestTurns cX5_fewestTurns 3 (some .int), Cond.methodLink RX5 182 yX5_all, Cond.instanceMethod yX5_all, Cond.selects RX5 yX5_all yX5_all, Cond.code yX5_all cX5_all 3 (some .int), Cond.methodLink RX5 185 yX5_clashesBy, Cond.instanceMethod yX5_clashesBy, Cond.selects RX5 yX5_clashesBy yX5_clashesBy, Cond.code yX5_clashesBy cX5_clashesBy 2 (some .int), Cond.methodLink RX5 173 yX5_first, Cond.instanceMethod yX5_first, Cond.selects RX5 yX5_first yX5_first, Cond.code yX5_first cX5_first 2 (some .int), Cond.methodLink RX5 176 yX5_second, Cond.instanceMethod yX5_second, Cond.selects RX5 yX5_second yX5_second, Cond.code yX5_second cX5_second 2 (some .int), Cond.methodLink RX5 179 yX5_third, Cond.instanceMethod yX5_third, Cond.selects RX5 yX5_third yX5_third, Cond.code yX5_third cX5_third 2 (some .int), Cond.methodLink RX5 138 yX5_clashesOf]
def wsX5_turningNow_r4 : List Cond := [Cond.instanceMethod yX5_clashesOf, Cond.selects RX5 yX5_clashesOf yX5_clashesOf, Cond.code yX5_clashesOf cX5_clashesOf 6 (some .int), Cond.methodLink RX5 134 yX5_clashesOn, Cond.instanceMethod yX5_clashesOn, Cond.selects RX5 yX5_clashesOn yX5_clashesOn, Cond.code yX5_clashesOn cX5_clashesOn 5 (some .int), Cond.methodLink RX5 130 yX5_same, Cond.static yX5_same, Cond.code yX5_same cX5_same 3 (some .int), Cond.methodLink RX5 201 yX5_farBy, Cond.instanceMethod yX5_farBy, Cond.selects RX5 yX5_farBy yX5_farBy, Cond.code yX5_farBy cX5_farBy 2 (some .int), Cond.methodLink RX5 207 yX5_firstTurn, Cond.instanceMethod yX5_firstTurn, Cond.selects RX5 yX5_firstTurn yX5_firstTurn, Cond.code yX5_firstTurn cX5_firstTurn 5 (some .int)]
def wsX5_turningNow : List Cond := .code yX5_turningNow cX5_turningNow 3 (some .int) :: ((wsX5_turningNow_r1 ++ (wsX5_turningNow_r2 ++ (wsX5_turningNow_r3 ++ wsX5_turningNow_r4))) ++ wsX50)
def wsX5_turning_r1 : List Cond := [Cond.fieldLink RX5 88 "CubeTowerModel" "cubes" "I", Cond.methodLink RX5 59 yX5_within, Cond.static yX5_within, Cond.initialized RX5, Cond.code yX5_within cX5_within 3 (some .boolean), Cond.methodLink RX5 210 yX5_turningNow, Cond.instanceMethod yX5_turningNow, Cond.selects RX5 yX5_turningNow yX5_turningNow, Cond.code yX5_turningNow cX5_turningNow 3 (some .int), Cond.constant RX5 188 (1048576), Cond.methodLink RX5 189 yX5_layAll, Cond.instanceMethod yX5_layAll, Cond.selects RX5 yX5_layAll yX5_layAll, Cond.code yX5_layAll cX5_layAll 2 none, Cond.fieldLink RX5 35 "CubeTowerModel" "manyOf" "[I", Cond.constant RX5 164 (181896), Cond.methodLink RX5 165 yX5_layWays, Cond.instanceMethod yX5_layWays, Cond.selects RX5 yX5_layWays yX5_layWays, Cond.code yX5_layWays cX5_layWays 5 none, Cond.fieldLink RX5 7 "CubeTowerModel" "kindOf" "[I", Cond.fieldLink RX5 29 "CubeTowerModel" "wayOf" "[I", Cond.fieldLink RX5 32 "CubeTowerModel" "farOf" "[I", Cond.methodLink RX5 157 yX5_take]
def wsX5_turning_r2 : List Cond := [Cond.instanceMethod yX5_take, Cond.selects RX5 yX5_take yX5_take, Cond.code yX5_take cX5_take 5 none, Cond.methodLink RX5 120 yX5_turnsOf, Cond.static yX5_turnsOf, Cond.code yX5_turnsOf cX5_turnsOf 1 (some .int), Cond.methodLink RX5 144 yX5_isIn, Cond.static yX5_isIn, Cond.code yX5_isIn cX5_isIn 2 (some .boolean), Cond.methodLink RX5 148 yX5_turned, Cond.static yX5_turned, Cond.code yX5_turned cX5_turned 4 (some .int), Cond.methodLink RX5 108 yX5_quarter, Cond.static yX5_quarter, Cond.code yX5_quarter cX5_quarter 2 (some .int), Cond.methodLink RX5 104 yX5_ring, Cond.static yX5_ring, Cond.code yX5_ring cX5_ring 6 (some .int), Cond.methodLink RX5 100 yX5_side, Cond.static yX5_side, Cond.code yX5_side cX5_side 2 (some .int), Cond.methodLink RX5 169 yX5_layColours, Cond.instanceMethod yX5_layColours, Cond.selects RX5 yX5_layColours yX5_layColours]
def wsX5_turning_r3 : List Cond := [Cond.code yX5_layColours cX5_layColours 3 none, Cond.fieldLink RX5 38 "CubeTowerModel" "colourOf" "[I", Cond.fieldLink RX5 13 "CubeTowerModel" "lies" "[I", Cond.methodLink RX5 161 yX5_laid, Cond.static yX5_laid, Cond.code yX5_laid cX5_laid 4 (some .int), Cond.methodLink RX5 204 yX5_fewestTurns, Cond.instanceMethod yX5_fewestTurns, Cond.selects RX5 yX5_fewestTurns yX5_fewestTurns, Cond.code yX5_fewestTurns cX5_fewestTurns 3 (some .int), Cond.methodLink RX5 182 yX5_all, Cond.instanceMethod yX5_all, Cond.selects RX5 yX5_all yX5_all, Cond.code yX5_all cX5_all 3 (some .int), Cond.methodLink RX5 185 yX5_clashesBy, Cond.instanceMethod yX5_clashesBy, Cond.selects RX5 yX5_clashesBy yX5_clashesBy, Cond.code yX5_clashesBy cX5_clashesBy 2 (some .int), Cond.methodLink RX5 173 yX5_first, Cond.instanceMethod yX5_first, Cond.selects RX5 yX5_first yX5_first, Cond.code yX5_first cX5_first 2 (some .int), Cond.methodLink RX5 176 yX5_second, Cond.instanceMethod yX5_second]
def wsX5_turning_r4 : List Cond := [Cond.selects RX5 yX5_second yX5_second, Cond.code yX5_second cX5_second 2 (some .int), Cond.methodLink RX5 179 yX5_third, Cond.instanceMethod yX5_third, Cond.selects RX5 yX5_third yX5_third, Cond.code yX5_third cX5_third 2 (some .int), Cond.methodLink RX5 138 yX5_clashesOf, Cond.instanceMethod yX5_clashesOf, Cond.selects RX5 yX5_clashesOf yX5_clashesOf, Cond.code yX5_clashesOf cX5_clashesOf 6 (some .int), Cond.methodLink RX5 134 yX5_clashesOn, Cond.instanceMethod yX5_clashesOn, Cond.selects RX5 yX5_clashesOn yX5_clashesOn, Cond.code yX5_clashesOn cX5_clashesOn 5 (some .int), Cond.methodLink RX5 130 yX5_same, Cond.static yX5_same, Cond.code yX5_same cX5_same 3 (some .int), Cond.methodLink RX5 201 yX5_farBy, Cond.instanceMethod yX5_farBy, Cond.selects RX5 yX5_farBy yX5_farBy, Cond.code yX5_farBy cX5_farBy 2 (some .int), Cond.methodLink RX5 207 yX5_firstTurn, Cond.instanceMethod yX5_firstTurn, Cond.selects RX5 yX5_firstTurn yX5_firstTurn]
def wsX5_turning_r5 : List Cond := [Cond.code yX5_firstTurn cX5_firstTurn 5 (some .int)]
def wsX5_turning : List Cond := .code yX5_turning cX5_turning 2 (some .int) :: ((wsX5_turning_r1 ++ (wsX5_turning_r2 ++ (wsX5_turning_r3 ++ (wsX5_turning_r4 ++ wsX5_turning_r5)))) ++ wsX50)
def wsX5_isBy_r1 : List Cond := [Cond.fieldLink RX5 13 "CubeTowerModel" "lies" "[I", Cond.methodLink RX5 154 yX5_painted, Cond.static yX5_painted, Cond.initialized RX5, Cond.code yX5_painted cX5_painted 3 (some .int), Cond.methodLink RX5 169 yX5_layColours, Cond.instanceMethod yX5_layColours, Cond.selects RX5 yX5_layColours yX5_layColours, Cond.code yX5_layColours cX5_layColours 3 none, Cond.fieldLink RX5 35 "CubeTowerModel" "manyOf" "[I", Cond.fieldLink RX5 38 "CubeTowerModel" "colourOf" "[I", Cond.fieldLink RX5 29 "CubeTowerModel" "wayOf" "[I", Cond.methodLink RX5 161 yX5_laid, Cond.static yX5_laid, Cond.code yX5_laid cX5_laid 4 (some .int), Cond.methodLink RX5 100 yX5_side, Cond.static yX5_side, Cond.code yX5_side cX5_side 2 (some .int), Cond.methodLink RX5 192 yX5_solutions, Cond.instanceMethod yX5_solutions, Cond.selects RX5 yX5_solutions yX5_solutions, Cond.code yX5_solutions cX5_solutions 3 (some .int), Cond.methodLink RX5 182 yX5_all, Cond.instanceMethod yX5_all]
def wsX5_isBy_r2 : List Cond := [Cond.selects RX5 yX5_all yX5_all, Cond.code yX5_all cX5_all 3 (some .int), Cond.fieldLink RX5 88 "CubeTowerModel" "cubes" "I", Cond.methodLink RX5 185 yX5_clashesBy, Cond.instanceMethod yX5_clashesBy, Cond.selects RX5 yX5_clashesBy yX5_clashesBy, Cond.code yX5_clashesBy cX5_clashesBy 2 (some .int), Cond.methodLink RX5 173 yX5_first, Cond.instanceMethod yX5_first, Cond.selects RX5 yX5_first yX5_first, Cond.code yX5_first cX5_first 2 (some .int), Cond.methodLink RX5 176 yX5_second, Cond.instanceMethod yX5_second, Cond.selects RX5 yX5_second yX5_second, Cond.code yX5_second cX5_second 2 (some .int), Cond.methodLink RX5 179 yX5_third, Cond.instanceMethod yX5_third, Cond.selects RX5 yX5_third yX5_third, Cond.code yX5_third cX5_third 2 (some .int), Cond.methodLink RX5 138 yX5_clashesOf, Cond.instanceMethod yX5_clashesOf, Cond.selects RX5 yX5_clashesOf yX5_clashesOf, Cond.code yX5_clashesOf cX5_clashesOf 6 (some .int), Cond.methodLink RX5 134 yX5_clashesOn]
def wsX5_isBy_r3 : List Cond := [Cond.instanceMethod yX5_clashesOn, Cond.selects RX5 yX5_clashesOn yX5_clashesOn, Cond.code yX5_clashesOn cX5_clashesOn 5 (some .int), Cond.methodLink RX5 130 yX5_same, Cond.static yX5_same, Cond.code yX5_same cX5_same 3 (some .int)]
def wsX5_isBy : List Cond := .code yX5_isBy cX5_isBy 6 (some .boolean) :: ((wsX5_isBy_r1 ++ (wsX5_isBy_r2 ++ wsX5_isBy_r3)) ++ wsX50)
def wsX5_repaintNow_r1 : List Cond := [Cond.fieldLink RX5 88 "CubeTowerModel" "cubes" "I", Cond.fieldLink RX5 13 "CubeTowerModel" "lies" "[I", Cond.methodLink RX5 189 yX5_layAll, Cond.instanceMethod yX5_layAll, Cond.selects RX5 yX5_layAll yX5_layAll, Cond.initialized RX5, Cond.code yX5_layAll cX5_layAll 2 none, Cond.fieldLink RX5 35 "CubeTowerModel" "manyOf" "[I", Cond.constant RX5 164 (181896), Cond.methodLink RX5 165 yX5_layWays, Cond.instanceMethod yX5_layWays, Cond.selects RX5 yX5_layWays yX5_layWays, Cond.code yX5_layWays cX5_layWays 5 none, Cond.fieldLink RX5 7 "CubeTowerModel" "kindOf" "[I", Cond.fieldLink RX5 29 "CubeTowerModel" "wayOf" "[I", Cond.fieldLink RX5 32 "CubeTowerModel" "farOf" "[I", Cond.methodLink RX5 157 yX5_take, Cond.instanceMethod yX5_take, Cond.selects RX5 yX5_take yX5_take, Cond.code yX5_take cX5_take 5 none, Cond.methodLink RX5 120 yX5_turnsOf, Cond.static yX5_turnsOf, Cond.code yX5_turnsOf cX5_turnsOf 1 (some .int), Cond.methodLink RX5 144 yX5_isIn]
def wsX5_repaintNow_r2 : List Cond := [Cond.static yX5_isIn, Cond.code yX5_isIn cX5_isIn 2 (some .boolean), Cond.methodLink RX5 148 yX5_turned, Cond.static yX5_turned, Cond.code yX5_turned cX5_turned 4 (some .int), Cond.methodLink RX5 108 yX5_quarter, Cond.static yX5_quarter, Cond.code yX5_quarter cX5_quarter 2 (some .int), Cond.methodLink RX5 104 yX5_ring, Cond.static yX5_ring, Cond.code yX5_ring cX5_ring 6 (some .int), Cond.methodLink RX5 100 yX5_side, Cond.static yX5_side, Cond.code yX5_side cX5_side 2 (some .int), Cond.methodLink RX5 169 yX5_layColours, Cond.instanceMethod yX5_layColours, Cond.selects RX5 yX5_layColours yX5_layColours, Cond.code yX5_layColours cX5_layColours 3 none, Cond.fieldLink RX5 38 "CubeTowerModel" "colourOf" "[I", Cond.methodLink RX5 161 yX5_laid, Cond.static yX5_laid, Cond.code yX5_laid cX5_laid 4 (some .int), Cond.methodLink RX5 192 yX5_solutions, Cond.instanceMethod yX5_solutions]
def wsX5_repaintNow_r3 : List Cond := [Cond.selects RX5 yX5_solutions yX5_solutions, Cond.code yX5_solutions cX5_solutions 3 (some .int), Cond.methodLink RX5 182 yX5_all, Cond.instanceMethod yX5_all, Cond.selects RX5 yX5_all yX5_all, Cond.code yX5_all cX5_all 3 (some .int), Cond.methodLink RX5 185 yX5_clashesBy, Cond.instanceMethod yX5_clashesBy, Cond.selects RX5 yX5_clashesBy yX5_clashesBy, Cond.code yX5_clashesBy cX5_clashesBy 2 (some .int), Cond.methodLink RX5 173 yX5_first, Cond.instanceMethod yX5_first, Cond.selects RX5 yX5_first yX5_first, Cond.code yX5_first cX5_first 2 (some .int), Cond.methodLink RX5 176 yX5_second, Cond.instanceMethod yX5_second, Cond.selects RX5 yX5_second yX5_second, Cond.code yX5_second cX5_second 2 (some .int), Cond.methodLink RX5 179 yX5_third, Cond.instanceMethod yX5_third, Cond.selects RX5 yX5_third yX5_third, Cond.code yX5_third cX5_third 2 (some .int), Cond.methodLink RX5 138 yX5_clashesOf, Cond.instanceMethod yX5_clashesOf]
def wsX5_repaintNow_r4 : List Cond := [Cond.selects RX5 yX5_clashesOf yX5_clashesOf, Cond.code yX5_clashesOf cX5_clashesOf 6 (some .int), Cond.methodLink RX5 134 yX5_clashesOn, Cond.instanceMethod yX5_clashesOn, Cond.selects RX5 yX5_clashesOn yX5_clashesOn, Cond.code yX5_clashesOn cX5_clashesOn 5 (some .int), Cond.methodLink RX5 130 yX5_same, Cond.static yX5_same, Cond.code yX5_same cX5_same 3 (some .int), Cond.methodLink RX5 213 yX5_isBy, Cond.instanceMethod yX5_isBy, Cond.selects RX5 yX5_isBy yX5_isBy, Cond.code yX5_isBy cX5_isBy 6 (some .boolean), Cond.methodLink RX5 154 yX5_painted, Cond.static yX5_painted, Cond.code yX5_painted cX5_painted 3 (some .int)]
def wsX5_repaintNow : List Cond := .code yX5_repaintNow cX5_repaintNow 5 (some .int) :: ((wsX5_repaintNow_r1 ++ (wsX5_repaintNow_r2 ++ (wsX5_repaintNow_r3 ++ wsX5_repaintNow_r4))) ++ wsX50)
def wsX5_repaint_r1 : List Cond := [Cond.fieldLink RX5 88 "CubeTowerModel" "cubes" "I", Cond.fieldLink RX5 216 "CubeTowerModel" "asks" "I", Cond.methodLink RX5 219 yX5_repaintNow, Cond.instanceMethod yX5_repaintNow, Cond.selects RX5 yX5_repaintNow yX5_repaintNow, Cond.initialized RX5, Cond.code yX5_repaintNow cX5_repaintNow 5 (some .int), Cond.fieldLink RX5 13 "CubeTowerModel" "lies" "[I", Cond.methodLink RX5 189 yX5_layAll, Cond.instanceMethod yX5_layAll, Cond.selects RX5 yX5_layAll yX5_layAll, Cond.code yX5_layAll cX5_layAll 2 none, Cond.fieldLink RX5 35 "CubeTowerModel" "manyOf" "[I", Cond.constant RX5 164 (181896), Cond.methodLink RX5 165 yX5_layWays, Cond.instanceMethod yX5_layWays, Cond.selects RX5 yX5_layWays yX5_layWays, Cond.code yX5_layWays cX5_layWays 5 none, Cond.fieldLink RX5 7 "CubeTowerModel" "kindOf" "[I", Cond.fieldLink RX5 29 "CubeTowerModel" "wayOf" "[I", Cond.fieldLink RX5 32 "CubeTowerModel" "farOf" "[I", Cond.methodLink RX5 157 yX5_take, Cond.instanceMethod yX5_take, Cond.selects RX5 yX5_take yX5_take]
def wsX5_repaint_r2 : List Cond := [Cond.code yX5_take cX5_take 5 none, Cond.methodLink RX5 120 yX5_turnsOf, Cond.static yX5_turnsOf, Cond.code yX5_turnsOf cX5_turnsOf 1 (some .int), Cond.methodLink RX5 144 yX5_isIn, Cond.static yX5_isIn, Cond.code yX5_isIn cX5_isIn 2 (some .boolean), Cond.methodLink RX5 148 yX5_turned, Cond.static yX5_turned, Cond.code yX5_turned cX5_turned 4 (some .int), Cond.methodLink RX5 108 yX5_quarter, Cond.static yX5_quarter, Cond.code yX5_quarter cX5_quarter 2 (some .int), Cond.methodLink RX5 104 yX5_ring, Cond.static yX5_ring, Cond.code yX5_ring cX5_ring 6 (some .int), Cond.methodLink RX5 100 yX5_side, Cond.static yX5_side, Cond.code yX5_side cX5_side 2 (some .int), Cond.methodLink RX5 169 yX5_layColours, Cond.instanceMethod yX5_layColours, Cond.selects RX5 yX5_layColours yX5_layColours, Cond.code yX5_layColours cX5_layColours 3 none, Cond.fieldLink RX5 38 "CubeTowerModel" "colourOf" "[I"]
def wsX5_repaint_r3 : List Cond := [Cond.methodLink RX5 161 yX5_laid, Cond.static yX5_laid, Cond.code yX5_laid cX5_laid 4 (some .int), Cond.methodLink RX5 192 yX5_solutions, Cond.instanceMethod yX5_solutions, Cond.selects RX5 yX5_solutions yX5_solutions, Cond.code yX5_solutions cX5_solutions 3 (some .int), Cond.methodLink RX5 182 yX5_all, Cond.instanceMethod yX5_all, Cond.selects RX5 yX5_all yX5_all, Cond.code yX5_all cX5_all 3 (some .int), Cond.methodLink RX5 185 yX5_clashesBy, Cond.instanceMethod yX5_clashesBy, Cond.selects RX5 yX5_clashesBy yX5_clashesBy, Cond.code yX5_clashesBy cX5_clashesBy 2 (some .int), Cond.methodLink RX5 173 yX5_first, Cond.instanceMethod yX5_first, Cond.selects RX5 yX5_first yX5_first, Cond.code yX5_first cX5_first 2 (some .int), Cond.methodLink RX5 176 yX5_second, Cond.instanceMethod yX5_second, Cond.selects RX5 yX5_second yX5_second, Cond.code yX5_second cX5_second 2 (some .int), Cond.methodLink RX5 179 yX5_third]
def wsX5_repaint_r4 : List Cond := [Cond.instanceMethod yX5_third, Cond.selects RX5 yX5_third yX5_third, Cond.code yX5_third cX5_third 2 (some .int), Cond.methodLink RX5 138 yX5_clashesOf, Cond.instanceMethod yX5_clashesOf, Cond.selects RX5 yX5_clashesOf yX5_clashesOf, Cond.code yX5_clashesOf cX5_clashesOf 6 (some .int), Cond.methodLink RX5 134 yX5_clashesOn, Cond.instanceMethod yX5_clashesOn, Cond.selects RX5 yX5_clashesOn yX5_clashesOn, Cond.code yX5_clashesOn cX5_clashesOn 5 (some .int), Cond.methodLink RX5 130 yX5_same, Cond.static yX5_same, Cond.code yX5_same cX5_same 3 (some .int), Cond.methodLink RX5 213 yX5_isBy, Cond.instanceMethod yX5_isBy, Cond.selects RX5 yX5_isBy yX5_isBy, Cond.code yX5_isBy cX5_isBy 6 (some .boolean), Cond.methodLink RX5 154 yX5_painted, Cond.static yX5_painted, Cond.code yX5_painted cX5_painted 3 (some .int)]
def wsX5_repaint : List Cond := .code yX5_repaint cX5_repaint 1 (some .int) :: ((wsX5_repaint_r1 ++ (wsX5_repaint_r2 ++ (wsX5_repaint_r3 ++ wsX5_repaint_r4))) ++ wsX50)
def wsX5_oddsNow_r1 : List Cond := [Cond.methodLink RX5 189 yX5_layAll, Cond.instanceMethod yX5_layAll, Cond.selects RX5 yX5_layAll yX5_layAll, Cond.initialized RX5, Cond.code yX5_layAll cX5_layAll 2 none, Cond.fieldLink RX5 35 "CubeTowerModel" "manyOf" "[I", Cond.fieldLink RX5 88 "CubeTowerModel" "cubes" "I", Cond.constant RX5 164 (181896), Cond.methodLink RX5 165 yX5_layWays, Cond.instanceMethod yX5_layWays, Cond.selects RX5 yX5_layWays yX5_layWays, Cond.code yX5_layWays cX5_layWays 5 none, Cond.fieldLink RX5 7 "CubeTowerModel" "kindOf" "[I", Cond.fieldLink RX5 29 "CubeTowerModel" "wayOf" "[I", Cond.fieldLink RX5 32 "CubeTowerModel" "farOf" "[I", Cond.methodLink RX5 157 yX5_take, Cond.instanceMethod yX5_take, Cond.selects RX5 yX5_take yX5_take, Cond.code yX5_take cX5_take 5 none, Cond.methodLink RX5 120 yX5_turnsOf, Cond.static yX5_turnsOf, Cond.code yX5_turnsOf cX5_turnsOf 1 (some .int), Cond.methodLink RX5 144 yX5_isIn, Cond.static yX5_isIn]
def wsX5_oddsNow_r2 : List Cond := [Cond.code yX5_isIn cX5_isIn 2 (some .boolean), Cond.methodLink RX5 148 yX5_turned, Cond.static yX5_turned, Cond.code yX5_turned cX5_turned 4 (some .int), Cond.methodLink RX5 108 yX5_quarter, Cond.static yX5_quarter, Cond.code yX5_quarter cX5_quarter 2 (some .int), Cond.methodLink RX5 104 yX5_ring, Cond.static yX5_ring, Cond.code yX5_ring cX5_ring 6 (some .int), Cond.methodLink RX5 100 yX5_side, Cond.static yX5_side, Cond.code yX5_side cX5_side 2 (some .int), Cond.methodLink RX5 169 yX5_layColours, Cond.instanceMethod yX5_layColours, Cond.selects RX5 yX5_layColours yX5_layColours, Cond.code yX5_layColours cX5_layColours 3 none, Cond.fieldLink RX5 38 "CubeTowerModel" "colourOf" "[I", Cond.fieldLink RX5 13 "CubeTowerModel" "lies" "[I", Cond.methodLink RX5 161 yX5_laid, Cond.static yX5_laid, Cond.code yX5_laid cX5_laid 4 (some .int), Cond.methodLink RX5 192 yX5_solutions, Cond.instanceMethod yX5_solutions]
def wsX5_oddsNow_r3 : List Cond := [Cond.selects RX5 yX5_solutions yX5_solutions, Cond.code yX5_solutions cX5_solutions 3 (some .int), Cond.methodLink RX5 182 yX5_all, Cond.instanceMethod yX5_all, Cond.selects RX5 yX5_all yX5_all, Cond.code yX5_all cX5_all 3 (some .int), Cond.methodLink RX5 185 yX5_clashesBy, Cond.instanceMethod yX5_clashesBy, Cond.selects RX5 yX5_clashesBy yX5_clashesBy, Cond.code yX5_clashesBy cX5_clashesBy 2 (some .int), Cond.methodLink RX5 173 yX5_first, Cond.instanceMethod yX5_first, Cond.selects RX5 yX5_first yX5_first, Cond.code yX5_first cX5_first 2 (some .int), Cond.methodLink RX5 176 yX5_second, Cond.instanceMethod yX5_second, Cond.selects RX5 yX5_second yX5_second, Cond.code yX5_second cX5_second 2 (some .int), Cond.methodLink RX5 179 yX5_third, Cond.instanceMethod yX5_third, Cond.selects RX5 yX5_third yX5_third, Cond.code yX5_third cX5_third 2 (some .int), Cond.methodLink RX5 138 yX5_clashesOf, Cond.instanceMethod yX5_clashesOf]
def wsX5_oddsNow_r4 : List Cond := [Cond.selects RX5 yX5_clashesOf yX5_clashesOf, Cond.code yX5_clashesOf cX5_clashesOf 6 (some .int), Cond.methodLink RX5 134 yX5_clashesOn, Cond.instanceMethod yX5_clashesOn, Cond.selects RX5 yX5_clashesOn yX5_clashesOn, Cond.code yX5_clashesOn cX5_clashesOn 5 (some .int), Cond.methodLink RX5 130 yX5_same, Cond.static yX5_same, Cond.code yX5_same cX5_same 3 (some .int), Cond.methodLink RX5 222 yX5_divisor, Cond.static yX5_divisor, Cond.code yX5_divisor cX5_divisor 5 (some .int)]
def wsX5_oddsNow : List Cond := .code yX5_oddsNow cX5_oddsNow 4 (some .int) :: ((wsX5_oddsNow_r1 ++ (wsX5_oddsNow_r2 ++ (wsX5_oddsNow_r3 ++ wsX5_oddsNow_r4))) ++ wsX50)
def wsX5_odds_r1 : List Cond := [Cond.fieldLink RX5 88 "CubeTowerModel" "cubes" "I", Cond.methodLink RX5 59 yX5_within, Cond.static yX5_within, Cond.initialized RX5, Cond.code yX5_within cX5_within 3 (some .boolean), Cond.methodLink RX5 225 yX5_oddsNow, Cond.instanceMethod yX5_oddsNow, Cond.selects RX5 yX5_oddsNow yX5_oddsNow, Cond.code yX5_oddsNow cX5_oddsNow 4 (some .int), Cond.methodLink RX5 189 yX5_layAll, Cond.instanceMethod yX5_layAll, Cond.selects RX5 yX5_layAll yX5_layAll, Cond.code yX5_layAll cX5_layAll 2 none, Cond.fieldLink RX5 35 "CubeTowerModel" "manyOf" "[I", Cond.constant RX5 164 (181896), Cond.methodLink RX5 165 yX5_layWays, Cond.instanceMethod yX5_layWays, Cond.selects RX5 yX5_layWays yX5_layWays, Cond.code yX5_layWays cX5_layWays 5 none, Cond.fieldLink RX5 7 "CubeTowerModel" "kindOf" "[I", Cond.fieldLink RX5 29 "CubeTowerModel" "wayOf" "[I", Cond.fieldLink RX5 32 "CubeTowerModel" "farOf" "[I", Cond.methodLink RX5 157 yX5_take, Cond.instanceMethod yX5_take]
def wsX5_odds_r2 : List Cond := [Cond.selects RX5 yX5_take yX5_take, Cond.code yX5_take cX5_take 5 none, Cond.methodLink RX5 120 yX5_turnsOf, Cond.static yX5_turnsOf, Cond.code yX5_turnsOf cX5_turnsOf 1 (some .int), Cond.methodLink RX5 144 yX5_isIn, Cond.static yX5_isIn, Cond.code yX5_isIn cX5_isIn 2 (some .boolean), Cond.methodLink RX5 148 yX5_turned, Cond.static yX5_turned, Cond.code yX5_turned cX5_turned 4 (some .int), Cond.methodLink RX5 108 yX5_quarter, Cond.static yX5_quarter, Cond.code yX5_quarter cX5_quarter 2 (some .int), Cond.methodLink RX5 104 yX5_ring, Cond.static yX5_ring, Cond.code yX5_ring cX5_ring 6 (some .int), Cond.methodLink RX5 100 yX5_side, Cond.static yX5_side, Cond.code yX5_side cX5_side 2 (some .int), Cond.methodLink RX5 169 yX5_layColours, Cond.instanceMethod yX5_layColours, Cond.selects RX5 yX5_layColours yX5_layColours, Cond.code yX5_layColours cX5_layColours 3 none]
def wsX5_odds_r3 : List Cond := [Cond.fieldLink RX5 38 "CubeTowerModel" "colourOf" "[I", Cond.fieldLink RX5 13 "CubeTowerModel" "lies" "[I", Cond.methodLink RX5 161 yX5_laid, Cond.static yX5_laid, Cond.code yX5_laid cX5_laid 4 (some .int), Cond.methodLink RX5 192 yX5_solutions, Cond.instanceMethod yX5_solutions, Cond.selects RX5 yX5_solutions yX5_solutions, Cond.code yX5_solutions cX5_solutions 3 (some .int), Cond.methodLink RX5 182 yX5_all, Cond.instanceMethod yX5_all, Cond.selects RX5 yX5_all yX5_all, Cond.code yX5_all cX5_all 3 (some .int), Cond.methodLink RX5 185 yX5_clashesBy, Cond.instanceMethod yX5_clashesBy, Cond.selects RX5 yX5_clashesBy yX5_clashesBy, Cond.code yX5_clashesBy cX5_clashesBy 2 (some .int), Cond.methodLink RX5 173 yX5_first, Cond.instanceMethod yX5_first, Cond.selects RX5 yX5_first yX5_first, Cond.code yX5_first cX5_first 2 (some .int), Cond.methodLink RX5 176 yX5_second, Cond.instanceMethod yX5_second, Cond.selects RX5 yX5_second yX5_second]
def wsX5_odds_r4 : List Cond := [Cond.code yX5_second cX5_second 2 (some .int), Cond.methodLink RX5 179 yX5_third, Cond.instanceMethod yX5_third, Cond.selects RX5 yX5_third yX5_third, Cond.code yX5_third cX5_third 2 (some .int), Cond.methodLink RX5 138 yX5_clashesOf, Cond.instanceMethod yX5_clashesOf, Cond.selects RX5 yX5_clashesOf yX5_clashesOf, Cond.code yX5_clashesOf cX5_clashesOf 6 (some .int), Cond.methodLink RX5 134 yX5_clashesOn, Cond.instanceMethod yX5_clashesOn, Cond.selects RX5 yX5_clashesOn yX5_clashesOn, Cond.code yX5_clashesOn cX5_clashesOn 5 (some .int), Cond.methodLink RX5 130 yX5_same, Cond.static yX5_same, Cond.code yX5_same cX5_same 3 (some .int), Cond.methodLink RX5 222 yX5_divisor, Cond.static yX5_divisor, Cond.code yX5_divisor cX5_divisor 5 (some .int)]
def wsX5_odds : List Cond := .code yX5_odds cX5_odds 2 (some .int) :: ((wsX5_odds_r1 ++ (wsX5_odds_r2 ++ (wsX5_odds_r3 ++ wsX5_odds_r4))) ++ wsX50)
def wsX5_see : List Cond := .code yX5_see cX5_see 4 (some .int) :: ([.fieldLink RX5 97 "CubeTowerModel" "seen" "I", .fieldLink RX5 16 "CubeTowerModel" "seenCube" "[I", .fieldLink RX5 19 "CubeTowerModel" "seenWhat" "[I", .fieldLink RX5 22 "CubeTowerModel" "seenCould" "[I", .methodLink RX5 123 yX5_isCube, .instanceMethod yX5_isCube, .selects RX5 yX5_isCube yX5_isCube, .initialized RX5, .code yX5_isCube cX5_isCube 2 (some .boolean), .fieldLink RX5 88 "CubeTowerModel" "cubes" "I", .methodLink RX5 59 yX5_within, .static yX5_within, .code yX5_within cX5_within 3 (some .boolean)] ++ wsX50)
def wsX5_forget : List Cond := .code yX5_forget cX5_forget 2 (some .int) :: ([.fieldLink RX5 97 "CubeTowerModel" "seen" "I"] ++ wsX50)
def wsX5_draw : List Cond := .code yX5_draw cX5_draw 2 (some .int) :: ([.constantLong RX5 234 (1103515245), .fieldLink RX5 236 "CubeTowerModel" "seedNow" "J", .constantLong RX5 240 (12345), .constantLong RX5 242 (2147483647), .constantLong RX5 244 (65536)] ++ wsX50)
def wsX5_runsNow_r1 : List Cond := [Cond.fieldLink RX5 236 "CubeTowerModel" "seedNow" "J", Cond.fieldLink RX5 41 "CubeTowerModel" "thought" "[I", Cond.fieldLink RX5 13 "CubeTowerModel" "lies" "[I", Cond.fieldLink RX5 88 "CubeTowerModel" "cubes" "I", Cond.fieldLink RX5 7 "CubeTowerModel" "kindOf" "[I", Cond.methodLink RX5 246 yX5_draw, Cond.instanceMethod yX5_draw, Cond.selects RX5 yX5_draw yX5_draw, Cond.initialized RX5, Cond.code yX5_draw cX5_draw 2 (some .int), Cond.constantLong RX5 234 (1103515245), Cond.constantLong RX5 240 (12345), Cond.constantLong RX5 242 (2147483647), Cond.constantLong RX5 244 (65536), Cond.methodLink RX5 120 yX5_turnsOf, Cond.static yX5_turnsOf, Cond.code yX5_turnsOf cX5_turnsOf 1 (some .int), Cond.methodLink RX5 144 yX5_isIn, Cond.static yX5_isIn, Cond.code yX5_isIn cX5_isIn 2 (some .boolean), Cond.methodLink RX5 148 yX5_turned, Cond.static yX5_turned, Cond.code yX5_turned cX5_turned 4 (some .int), Cond.methodLink RX5 108 yX5_quarter]
def wsX5_runsNow_r2 : List Cond := [Cond.static yX5_quarter, Cond.code yX5_quarter cX5_quarter 2 (some .int), Cond.methodLink RX5 104 yX5_ring, Cond.static yX5_ring, Cond.code yX5_ring cX5_ring 6 (some .int), Cond.methodLink RX5 100 yX5_side, Cond.static yX5_side, Cond.code yX5_side cX5_side 2 (some .int), Cond.methodLink RX5 138 yX5_clashesOf, Cond.instanceMethod yX5_clashesOf, Cond.selects RX5 yX5_clashesOf yX5_clashesOf, Cond.code yX5_clashesOf cX5_clashesOf 6 (some .int), Cond.methodLink RX5 134 yX5_clashesOn, Cond.instanceMethod yX5_clashesOn, Cond.selects RX5 yX5_clashesOn yX5_clashesOn, Cond.code yX5_clashesOn cX5_clashesOn 5 (some .int), Cond.methodLink RX5 130 yX5_same, Cond.static yX5_same, Cond.code yX5_same cX5_same 3 (some .int)]
def wsX5_runsNow : List Cond := .code yX5_runsNow cX5_runsNow 8 (some .int) :: ((wsX5_runsNow_r1 ++ wsX5_runsNow_r2) ++ wsX50)
def wsX5_runs_r1 : List Cond := [Cond.fieldLink RX5 88 "CubeTowerModel" "cubes" "I", Cond.methodLink RX5 59 yX5_within, Cond.static yX5_within, Cond.initialized RX5, Cond.code yX5_within cX5_within 3 (some .boolean), Cond.methodLink RX5 249 yX5_runsNow, Cond.instanceMethod yX5_runsNow, Cond.selects RX5 yX5_runsNow yX5_runsNow, Cond.code yX5_runsNow cX5_runsNow 8 (some .int), Cond.fieldLink RX5 236 "CubeTowerModel" "seedNow" "J", Cond.fieldLink RX5 41 "CubeTowerModel" "thought" "[I", Cond.fieldLink RX5 13 "CubeTowerModel" "lies" "[I", Cond.fieldLink RX5 7 "CubeTowerModel" "kindOf" "[I", Cond.methodLink RX5 246 yX5_draw, Cond.instanceMethod yX5_draw, Cond.selects RX5 yX5_draw yX5_draw, Cond.code yX5_draw cX5_draw 2 (some .int), Cond.constantLong RX5 234 (1103515245), Cond.constantLong RX5 240 (12345), Cond.constantLong RX5 242 (2147483647), Cond.constantLong RX5 244 (65536), Cond.methodLink RX5 120 yX5_turnsOf, Cond.static yX5_turnsOf, Cond.code yX5_turnsOf cX5_turnsOf 1 (some .int)]
def wsX5_runs_r2 : List Cond := [Cond.methodLink RX5 144 yX5_isIn, Cond.static yX5_isIn, Cond.code yX5_isIn cX5_isIn 2 (some .boolean), Cond.methodLink RX5 148 yX5_turned, Cond.static yX5_turned, Cond.code yX5_turned cX5_turned 4 (some .int), Cond.methodLink RX5 108 yX5_quarter, Cond.static yX5_quarter, Cond.code yX5_quarter cX5_quarter 2 (some .int), Cond.methodLink RX5 104 yX5_ring, Cond.static yX5_ring, Cond.code yX5_ring cX5_ring 6 (some .int), Cond.methodLink RX5 100 yX5_side, Cond.static yX5_side, Cond.code yX5_side cX5_side 2 (some .int), Cond.methodLink RX5 138 yX5_clashesOf, Cond.instanceMethod yX5_clashesOf, Cond.selects RX5 yX5_clashesOf yX5_clashesOf, Cond.code yX5_clashesOf cX5_clashesOf 6 (some .int), Cond.methodLink RX5 134 yX5_clashesOn, Cond.instanceMethod yX5_clashesOn, Cond.selects RX5 yX5_clashesOn yX5_clashesOn, Cond.code yX5_clashesOn cX5_clashesOn 5 (some .int), Cond.methodLink RX5 130 yX5_same]
def wsX5_runs_r3 : List Cond := [Cond.static yX5_same, Cond.code yX5_same cX5_same 3 (some .int)]
def wsX5_runs : List Cond := .code yX5_runs cX5_runs 4 (some .int) :: ((wsX5_runs_r1 ++ (wsX5_runs_r2 ++ wsX5_runs_r3)) ++ wsX50)
def wsX5_image : List Cond := .code yX5_image cX5_image 2 (some .int) :: ([.fieldLink RX5 88 "CubeTowerModel" "cubes" "I", .fieldLink RX5 252 "CubeTowerModel" "isKept" "Z", .fieldLink RX5 94 "CubeTowerModel" "towers" "I", .fieldLink RX5 255 "CubeTowerModel" "keptTower" "I", .fieldLink RX5 91 "CubeTowerModel" "turns" "I", .fieldLink RX5 258 "CubeTowerModel" "keptTurns" "I", .fieldLink RX5 97 "CubeTowerModel" "seen" "I", .fieldLink RX5 261 "CubeTowerModel" "keptSeen" "I", .fieldLink RX5 44 "CubeTowerModel" "keptKind" "[I", .fieldLink RX5 7 "CubeTowerModel" "kindOf" "[I", .fieldLink RX5 47 "CubeTowerModel" "keptLies" "[I", .fieldLink RX5 13 "CubeTowerModel" "lies" "[I", .fieldLink RX5 50 "CubeTowerModel" "keptCube" "[I", .fieldLink RX5 16 "CubeTowerModel" "seenCube" "[I", .fieldLink RX5 53 "CubeTowerModel" "keptWhat" "[I", .fieldLink RX5 19 "CubeTowerModel" "seenWhat" "[I", .fieldLink RX5 56 "CubeTowerModel" "keptCould" "[I", .fieldLink RX5 22 "CubeTowerModel" "seenCould" "[I"] ++ wsX50)
def wsX5_restore : List Cond := .code yX5_restore cX5_restore 2 (some .int) :: ([.fieldLink RX5 252 "CubeTowerModel" "isKept" "Z", .fieldLink RX5 255 "CubeTowerModel" "keptTower" "I", .fieldLink RX5 94 "CubeTowerModel" "towers" "I", .fieldLink RX5 258 "CubeTowerModel" "keptTurns" "I", .fieldLink RX5 91 "CubeTowerModel" "turns" "I", .fieldLink RX5 261 "CubeTowerModel" "keptSeen" "I", .fieldLink RX5 97 "CubeTowerModel" "seen" "I", .fieldLink RX5 7 "CubeTowerModel" "kindOf" "[I", .fieldLink RX5 44 "CubeTowerModel" "keptKind" "[I", .fieldLink RX5 13 "CubeTowerModel" "lies" "[I", .fieldLink RX5 47 "CubeTowerModel" "keptLies" "[I", .fieldLink RX5 16 "CubeTowerModel" "seenCube" "[I", .fieldLink RX5 50 "CubeTowerModel" "keptCube" "[I", .fieldLink RX5 19 "CubeTowerModel" "seenWhat" "[I", .fieldLink RX5 53 "CubeTowerModel" "keptWhat" "[I", .fieldLink RX5 22 "CubeTowerModel" "seenCould" "[I", .fieldLink RX5 56 "CubeTowerModel" "keptCould" "[I"] ++ wsX50)
def wsX5_colours : List Cond := .code yX5_colours cX5_colours 4 (some .int) :: ([.fieldLink RX5 88 "CubeTowerModel" "cubes" "I", .fieldLink RX5 13 "CubeTowerModel" "lies" "[I", .methodLink RX5 100 yX5_side, .static yX5_side, .initialized RX5, .code yX5_side cX5_side 2 (some .int), .methodLink RX5 231 yX5_size, .static yX5_size, .code yX5_size cX5_size 3 (some .int)] ++ wsX50)
def wsX5_goodWalls : List Cond := .code yX5_goodWalls cX5_goodWalls 3 (some .int) :: ([.fieldLink RX5 88 "CubeTowerModel" "cubes" "I", .methodLink RX5 141 yX5_wallNow, .instanceMethod yX5_wallNow, .selects RX5 yX5_wallNow yX5_wallNow, .initialized RX5, .code yX5_wallNow cX5_wallNow 4 (some .int), .fieldLink RX5 13 "CubeTowerModel" "lies" "[I", .methodLink RX5 134 yX5_clashesOn, .instanceMethod yX5_clashesOn, .selects RX5 yX5_clashesOn yX5_clashesOn, .code yX5_clashesOn cX5_clashesOn 5 (some .int), .methodLink RX5 130 yX5_same, .static yX5_same, .code yX5_same cX5_same 3 (some .int), .methodLink RX5 100 yX5_side, .static yX5_side, .code yX5_side cX5_side 2 (some .int)] ++ wsX50)
def wsX5_howMany_r1 : List Cond := [Cond.fieldLink RX5 88 "CubeTowerModel" "cubes" "I", Cond.fieldLink RX5 91 "CubeTowerModel" "turns" "I", Cond.fieldLink RX5 97 "CubeTowerModel" "seen" "I", Cond.fieldLink RX5 63 "CubeTowerModel" "pageLength" "I", Cond.fieldLink RX5 94 "CubeTowerModel" "towers" "I", Cond.fieldLink RX5 216 "CubeTowerModel" "asks" "I", Cond.methodLink RX5 151 yX5_clashes, Cond.instanceMethod yX5_clashes, Cond.selects RX5 yX5_clashes yX5_clashes, Cond.initialized RX5, Cond.code yX5_clashes cX5_clashes 1 (some .int), Cond.fieldLink RX5 13 "CubeTowerModel" "lies" "[I", Cond.methodLink RX5 138 yX5_clashesOf, Cond.instanceMethod yX5_clashesOf, Cond.selects RX5 yX5_clashesOf yX5_clashesOf, Cond.code yX5_clashesOf cX5_clashesOf 6 (some .int), Cond.methodLink RX5 134 yX5_clashesOn, Cond.instanceMethod yX5_clashesOn, Cond.selects RX5 yX5_clashesOn yX5_clashesOn, Cond.code yX5_clashesOn cX5_clashesOn 5 (some .int), Cond.methodLink RX5 130 yX5_same, Cond.static yX5_same, Cond.code yX5_same cX5_same 3 (some .int), Cond.methodLink RX5 100 yX5_side]
def wsX5_howMany_r2 : List Cond := [Cond.static yX5_side, Cond.code yX5_side cX5_side 2 (some .int), Cond.methodLink RX5 264 yX5_goodWalls, Cond.instanceMethod yX5_goodWalls, Cond.selects RX5 yX5_goodWalls yX5_goodWalls, Cond.code yX5_goodWalls cX5_goodWalls 3 (some .int), Cond.methodLink RX5 141 yX5_wallNow, Cond.instanceMethod yX5_wallNow, Cond.selects RX5 yX5_wallNow yX5_wallNow, Cond.code yX5_wallNow cX5_wallNow 4 (some .int), Cond.methodLink RX5 267 yX5_colours, Cond.instanceMethod yX5_colours, Cond.selects RX5 yX5_colours yX5_colours, Cond.code yX5_colours cX5_colours 4 (some .int), Cond.methodLink RX5 231 yX5_size, Cond.static yX5_size, Cond.code yX5_size cX5_size 3 (some .int)]
def wsX5_howMany : List Cond := .code yX5_howMany cX5_howMany 2 (some .int) :: ((wsX5_howMany_r1 ++ wsX5_howMany_r2) ++ wsX50)
def wsX5_count_r1 : List Cond := [Cond.methodLink RX5 270 yX5_howMany, Cond.instanceMethod yX5_howMany, Cond.selects RX5 yX5_howMany yX5_howMany, Cond.initialized RX5, Cond.code yX5_howMany cX5_howMany 2 (some .int), Cond.fieldLink RX5 88 "CubeTowerModel" "cubes" "I", Cond.fieldLink RX5 91 "CubeTowerModel" "turns" "I", Cond.fieldLink RX5 97 "CubeTowerModel" "seen" "I", Cond.fieldLink RX5 63 "CubeTowerModel" "pageLength" "I", Cond.fieldLink RX5 94 "CubeTowerModel" "towers" "I", Cond.fieldLink RX5 216 "CubeTowerModel" "asks" "I", Cond.methodLink RX5 151 yX5_clashes, Cond.instanceMethod yX5_clashes, Cond.selects RX5 yX5_clashes yX5_clashes, Cond.code yX5_clashes cX5_clashes 1 (some .int), Cond.fieldLink RX5 13 "CubeTowerModel" "lies" "[I", Cond.methodLink RX5 138 yX5_clashesOf, Cond.instanceMethod yX5_clashesOf, Cond.selects RX5 yX5_clashesOf yX5_clashesOf, Cond.code yX5_clashesOf cX5_clashesOf 6 (some .int), Cond.methodLink RX5 134 yX5_clashesOn, Cond.instanceMethod yX5_clashesOn, Cond.selects RX5 yX5_clashesOn yX5_clashesOn, Cond.code yX5_clashesOn cX5_clashesOn 5 (some .int)]
def wsX5_count_r2 : List Cond := [Cond.methodLink RX5 130 yX5_same, Cond.static yX5_same, Cond.code yX5_same cX5_same 3 (some .int), Cond.methodLink RX5 100 yX5_side, Cond.static yX5_side, Cond.code yX5_side cX5_side 2 (some .int), Cond.methodLink RX5 264 yX5_goodWalls, Cond.instanceMethod yX5_goodWalls, Cond.selects RX5 yX5_goodWalls yX5_goodWalls, Cond.code yX5_goodWalls cX5_goodWalls 3 (some .int), Cond.methodLink RX5 141 yX5_wallNow, Cond.instanceMethod yX5_wallNow, Cond.selects RX5 yX5_wallNow yX5_wallNow, Cond.code yX5_wallNow cX5_wallNow 4 (some .int), Cond.methodLink RX5 267 yX5_colours, Cond.instanceMethod yX5_colours, Cond.selects RX5 yX5_colours yX5_colours, Cond.code yX5_colours cX5_colours 4 (some .int), Cond.methodLink RX5 231 yX5_size, Cond.static yX5_size, Cond.code yX5_size cX5_size 3 (some .int)]
def wsX5_count : List Cond := .code yX5_count cX5_count 2 (some .int) :: ((wsX5_count_r1 ++ wsX5_count_r2) ++ wsX50)
def wsX5_mix : List Cond := .code yX5_mix cX5_mix 3 none :: ([.constantLong RX5 273 (31), .fieldLink RX5 275 "CubeTowerModel" "h" "J"] ++ wsX50)
def wsX5_mixTower_r1 : List Cond := [Cond.methodLink RX5 141 yX5_wallNow, Cond.instanceMethod yX5_wallNow, Cond.selects RX5 yX5_wallNow yX5_wallNow, Cond.initialized RX5, Cond.code yX5_wallNow cX5_wallNow 4 (some .int), Cond.fieldLink RX5 13 "CubeTowerModel" "lies" "[I", Cond.methodLink RX5 134 yX5_clashesOn, Cond.instanceMethod yX5_clashesOn, Cond.selects RX5 yX5_clashesOn yX5_clashesOn, Cond.code yX5_clashesOn cX5_clashesOn 5 (some .int), Cond.fieldLink RX5 88 "CubeTowerModel" "cubes" "I", Cond.methodLink RX5 130 yX5_same, Cond.static yX5_same, Cond.code yX5_same cX5_same 3 (some .int), Cond.methodLink RX5 100 yX5_side, Cond.static yX5_side, Cond.code yX5_side cX5_side 2 (some .int), Cond.methodLink RX5 278 yX5_mix, Cond.instanceMethod yX5_mix, Cond.selects RX5 yX5_mix yX5_mix, Cond.code yX5_mix cX5_mix 3 none, Cond.constantLong RX5 273 (31), Cond.fieldLink RX5 275 "CubeTowerModel" "h" "J", Cond.methodLink RX5 198 yX5_waysNow]
def wsX5_mixTower_r2 : List Cond := [Cond.instanceMethod yX5_waysNow, Cond.selects RX5 yX5_waysNow yX5_waysNow, Cond.code yX5_waysNow cX5_waysNow 2 (some .int), Cond.methodLink RX5 189 yX5_layAll, Cond.instanceMethod yX5_layAll, Cond.selects RX5 yX5_layAll yX5_layAll, Cond.code yX5_layAll cX5_layAll 2 none, Cond.fieldLink RX5 35 "CubeTowerModel" "manyOf" "[I", Cond.constant RX5 164 (181896), Cond.methodLink RX5 165 yX5_layWays, Cond.instanceMethod yX5_layWays, Cond.selects RX5 yX5_layWays yX5_layWays, Cond.code yX5_layWays cX5_layWays 5 none, Cond.fieldLink RX5 7 "CubeTowerModel" "kindOf" "[I", Cond.fieldLink RX5 29 "CubeTowerModel" "wayOf" "[I", Cond.fieldLink RX5 32 "CubeTowerModel" "farOf" "[I", Cond.methodLink RX5 157 yX5_take, Cond.instanceMethod yX5_take, Cond.selects RX5 yX5_take yX5_take, Cond.code yX5_take cX5_take 5 none, Cond.methodLink RX5 120 yX5_turnsOf, Cond.static yX5_turnsOf, Cond.code yX5_turnsOf cX5_turnsOf 1 (some .int), Cond.methodLink RX5 144 yX5_isIn]
def wsX5_mixTower_r3 : List Cond := [Cond.static yX5_isIn, Cond.code yX5_isIn cX5_isIn 2 (some .boolean), Cond.methodLink RX5 148 yX5_turned, Cond.static yX5_turned, Cond.code yX5_turned cX5_turned 4 (some .int), Cond.methodLink RX5 108 yX5_quarter, Cond.static yX5_quarter, Cond.code yX5_quarter cX5_quarter 2 (some .int), Cond.methodLink RX5 104 yX5_ring, Cond.static yX5_ring, Cond.code yX5_ring cX5_ring 6 (some .int), Cond.methodLink RX5 169 yX5_layColours, Cond.instanceMethod yX5_layColours, Cond.selects RX5 yX5_layColours yX5_layColours, Cond.code yX5_layColours cX5_layColours 3 none, Cond.fieldLink RX5 38 "CubeTowerModel" "colourOf" "[I", Cond.methodLink RX5 161 yX5_laid, Cond.static yX5_laid, Cond.code yX5_laid cX5_laid 4 (some .int), Cond.methodLink RX5 192 yX5_solutions, Cond.instanceMethod yX5_solutions, Cond.selects RX5 yX5_solutions yX5_solutions, Cond.code yX5_solutions cX5_solutions 3 (some .int), Cond.methodLink RX5 182 yX5_all]
def wsX5_mixTower_r4 : List Cond := [Cond.instanceMethod yX5_all, Cond.selects RX5 yX5_all yX5_all, Cond.code yX5_all cX5_all 3 (some .int), Cond.methodLink RX5 185 yX5_clashesBy, Cond.instanceMethod yX5_clashesBy, Cond.selects RX5 yX5_clashesBy yX5_clashesBy, Cond.code yX5_clashesBy cX5_clashesBy 2 (some .int), Cond.methodLink RX5 173 yX5_first, Cond.instanceMethod yX5_first, Cond.selects RX5 yX5_first yX5_first, Cond.code yX5_first cX5_first 2 (some .int), Cond.methodLink RX5 176 yX5_second, Cond.instanceMethod yX5_second, Cond.selects RX5 yX5_second yX5_second, Cond.code yX5_second cX5_second 2 (some .int), Cond.methodLink RX5 179 yX5_third, Cond.instanceMethod yX5_third, Cond.selects RX5 yX5_third yX5_third, Cond.code yX5_third cX5_third 2 (some .int), Cond.methodLink RX5 138 yX5_clashesOf, Cond.instanceMethod yX5_clashesOf, Cond.selects RX5 yX5_clashesOf yX5_clashesOf, Cond.code yX5_clashesOf cX5_clashesOf 6 (some .int), Cond.methodLink RX5 195 yX5_leastClashes]
def wsX5_mixTower_r5 : List Cond := [Cond.instanceMethod yX5_leastClashes, Cond.selects RX5 yX5_leastClashes yX5_leastClashes, Cond.code yX5_leastClashes cX5_leastClashes 3 (some .int), Cond.constant RX5 188 (1048576), Cond.methodLink RX5 210 yX5_turningNow, Cond.instanceMethod yX5_turningNow, Cond.selects RX5 yX5_turningNow yX5_turningNow, Cond.code yX5_turningNow cX5_turningNow 3 (some .int), Cond.methodLink RX5 204 yX5_fewestTurns, Cond.instanceMethod yX5_fewestTurns, Cond.selects RX5 yX5_fewestTurns yX5_fewestTurns, Cond.code yX5_fewestTurns cX5_fewestTurns 3 (some .int), Cond.methodLink RX5 201 yX5_farBy, Cond.instanceMethod yX5_farBy, Cond.selects RX5 yX5_farBy yX5_farBy, Cond.code yX5_farBy cX5_farBy 2 (some .int), Cond.methodLink RX5 207 yX5_firstTurn, Cond.instanceMethod yX5_firstTurn, Cond.selects RX5 yX5_firstTurn yX5_firstTurn, Cond.code yX5_firstTurn cX5_firstTurn 5 (some .int), Cond.methodLink RX5 225 yX5_oddsNow, Cond.instanceMethod yX5_oddsNow, Cond.selects RX5 yX5_oddsNow yX5_oddsNow, Cond.code yX5_oddsNow cX5_oddsNow 4 (some .int)]
def wsX5_mixTower_r6 : List Cond := [Cond.methodLink RX5 222 yX5_divisor, Cond.static yX5_divisor, Cond.code yX5_divisor cX5_divisor 5 (some .int)]
def wsX5_mixTower : List Cond := .code yX5_mixTower cX5_mixTower 2 none :: ((wsX5_mixTower_r1 ++ (wsX5_mixTower_r2 ++ (wsX5_mixTower_r3 ++ (wsX5_mixTower_r4 ++ (wsX5_mixTower_r5 ++ wsX5_mixTower_r6))))) ++ wsX50)
def wsX5_digest_r1 : List Cond := [Cond.constantLong RX5 282 (1319), Cond.fieldLink RX5 275 "CubeTowerModel" "h" "J", Cond.fieldLink RX5 88 "CubeTowerModel" "cubes" "I", Cond.fieldLink RX5 63 "CubeTowerModel" "pageLength" "I", Cond.fieldLink RX5 25 "CubeTowerModel" "page" "[B", Cond.methodLink RX5 127 yX5_cubeNow, Cond.instanceMethod yX5_cubeNow, Cond.selects RX5 yX5_cubeNow yX5_cubeNow, Cond.initialized RX5, Cond.code yX5_cubeNow cX5_cubeNow 3 (some .int), Cond.fieldLink RX5 7 "CubeTowerModel" "kindOf" "[I", Cond.fieldLink RX5 13 "CubeTowerModel" "lies" "[I", Cond.methodLink RX5 111 yX5_waysOf, Cond.static yX5_waysOf, Cond.code yX5_waysOf cX5_waysOf 1 (some .int), Cond.methodLink RX5 114 yX5_sortsOf, Cond.instanceMethod yX5_sortsOf, Cond.selects RX5 yX5_sortsOf yX5_sortsOf, Cond.code yX5_sortsOf cX5_sortsOf 6 (some .int), Cond.fieldLink RX5 97 "CubeTowerModel" "seen" "I", Cond.fieldLink RX5 16 "CubeTowerModel" "seenCube" "[I", Cond.fieldLink RX5 19 "CubeTowerModel" "seenWhat" "[I", Cond.fieldLink RX5 22 "CubeTowerModel" "seenCould" "[I", Cond.methodLink RX5 228 yX5_could]
def wsX5_digest_r2 : List Cond := [Cond.static yX5_could, Cond.code yX5_could cX5_could 2 (some .boolean), Cond.methodLink RX5 117 yX5_askOf, Cond.instanceMethod yX5_askOf, Cond.selects RX5 yX5_askOf yX5_askOf, Cond.code yX5_askOf cX5_askOf 9 (some .int), Cond.constant RX5 188 (1048576), Cond.methodLink RX5 144 yX5_isIn, Cond.static yX5_isIn, Cond.code yX5_isIn cX5_isIn 2 (some .boolean), Cond.methodLink RX5 231 yX5_size, Cond.static yX5_size, Cond.code yX5_size cX5_size 3 (some .int), Cond.methodLink RX5 120 yX5_turnsOf, Cond.static yX5_turnsOf, Cond.code yX5_turnsOf cX5_turnsOf 1 (some .int), Cond.methodLink RX5 100 yX5_side, Cond.static yX5_side, Cond.code yX5_side cX5_side 2 (some .int), Cond.methodLink RX5 278 yX5_mix, Cond.instanceMethod yX5_mix, Cond.selects RX5 yX5_mix yX5_mix, Cond.code yX5_mix cX5_mix 3 none, Cond.constantLong RX5 273 (31)]
def wsX5_digest_r3 : List Cond := [Cond.methodLink RX5 284 yX5_mixTower, Cond.instanceMethod yX5_mixTower, Cond.selects RX5 yX5_mixTower yX5_mixTower, Cond.code yX5_mixTower cX5_mixTower 2 none, Cond.methodLink RX5 141 yX5_wallNow, Cond.instanceMethod yX5_wallNow, Cond.selects RX5 yX5_wallNow yX5_wallNow, Cond.code yX5_wallNow cX5_wallNow 4 (some .int), Cond.methodLink RX5 134 yX5_clashesOn, Cond.instanceMethod yX5_clashesOn, Cond.selects RX5 yX5_clashesOn yX5_clashesOn, Cond.code yX5_clashesOn cX5_clashesOn 5 (some .int), Cond.methodLink RX5 130 yX5_same, Cond.static yX5_same, Cond.code yX5_same cX5_same 3 (some .int), Cond.methodLink RX5 198 yX5_waysNow, Cond.instanceMethod yX5_waysNow, Cond.selects RX5 yX5_waysNow yX5_waysNow, Cond.code yX5_waysNow cX5_waysNow 2 (some .int), Cond.methodLink RX5 189 yX5_layAll, Cond.instanceMethod yX5_layAll, Cond.selects RX5 yX5_layAll yX5_layAll, Cond.code yX5_layAll cX5_layAll 2 none, Cond.fieldLink RX5 35 "CubeTowerModel" "manyOf" "[I"]
def wsX5_digest_r4 : List Cond := [Cond.constant RX5 164 (181896), Cond.methodLink RX5 165 yX5_layWays, Cond.instanceMethod yX5_layWays, Cond.selects RX5 yX5_layWays yX5_layWays, Cond.code yX5_layWays cX5_layWays 5 none, Cond.fieldLink RX5 29 "CubeTowerModel" "wayOf" "[I", Cond.fieldLink RX5 32 "CubeTowerModel" "farOf" "[I", Cond.methodLink RX5 157 yX5_take, Cond.instanceMethod yX5_take, Cond.selects RX5 yX5_take yX5_take, Cond.code yX5_take cX5_take 5 none, Cond.methodLink RX5 148 yX5_turned, Cond.static yX5_turned, Cond.code yX5_turned cX5_turned 4 (some .int), Cond.methodLink RX5 108 yX5_quarter, Cond.static yX5_quarter, Cond.code yX5_quarter cX5_quarter 2 (some .int), Cond.methodLink RX5 104 yX5_ring, Cond.static yX5_ring, Cond.code yX5_ring cX5_ring 6 (some .int), Cond.methodLink RX5 169 yX5_layColours, Cond.instanceMethod yX5_layColours, Cond.selects RX5 yX5_layColours yX5_layColours, Cond.code yX5_layColours cX5_layColours 3 none]
def wsX5_digest_r5 : List Cond := [Cond.fieldLink RX5 38 "CubeTowerModel" "colourOf" "[I", Cond.methodLink RX5 161 yX5_laid, Cond.static yX5_laid, Cond.code yX5_laid cX5_laid 4 (some .int), Cond.methodLink RX5 192 yX5_solutions, Cond.instanceMethod yX5_solutions, Cond.selects RX5 yX5_solutions yX5_solutions, Cond.code yX5_solutions cX5_solutions 3 (some .int), Cond.methodLink RX5 182 yX5_all, Cond.instanceMethod yX5_all, Cond.selects RX5 yX5_all yX5_all, Cond.code yX5_all cX5_all 3 (some .int), Cond.methodLink RX5 185 yX5_clashesBy, Cond.instanceMethod yX5_clashesBy, Cond.selects RX5 yX5_clashesBy yX5_clashesBy, Cond.code yX5_clashesBy cX5_clashesBy 2 (some .int), Cond.methodLink RX5 173 yX5_first, Cond.instanceMethod yX5_first, Cond.selects RX5 yX5_first yX5_first, Cond.code yX5_first cX5_first 2 (some .int), Cond.methodLink RX5 176 yX5_second, Cond.instanceMethod yX5_second, Cond.selects RX5 yX5_second yX5_second, Cond.code yX5_second cX5_second 2 (some .int)]
def wsX5_digest_r6 : List Cond := [Cond.methodLink RX5 179 yX5_third, Cond.instanceMethod yX5_third, Cond.selects RX5 yX5_third yX5_third, Cond.code yX5_third cX5_third 2 (some .int), Cond.methodLink RX5 138 yX5_clashesOf, Cond.instanceMethod yX5_clashesOf, Cond.selects RX5 yX5_clashesOf yX5_clashesOf, Cond.code yX5_clashesOf cX5_clashesOf 6 (some .int), Cond.methodLink RX5 195 yX5_leastClashes, Cond.instanceMethod yX5_leastClashes, Cond.selects RX5 yX5_leastClashes yX5_leastClashes, Cond.code yX5_leastClashes cX5_leastClashes 3 (some .int), Cond.methodLink RX5 210 yX5_turningNow, Cond.instanceMethod yX5_turningNow, Cond.selects RX5 yX5_turningNow yX5_turningNow, Cond.code yX5_turningNow cX5_turningNow 3 (some .int), Cond.methodLink RX5 204 yX5_fewestTurns, Cond.instanceMethod yX5_fewestTurns, Cond.selects RX5 yX5_fewestTurns yX5_fewestTurns, Cond.code yX5_fewestTurns cX5_fewestTurns 3 (some .int), Cond.methodLink RX5 201 yX5_farBy, Cond.instanceMethod yX5_farBy, Cond.selects RX5 yX5_farBy yX5_farBy, Cond.code yX5_farBy cX5_farBy 2 (some .int)]
def wsX5_digest_r7 : List Cond := [Cond.methodLink RX5 207 yX5_firstTurn, Cond.instanceMethod yX5_firstTurn, Cond.selects RX5 yX5_firstTurn yX5_firstTurn, Cond.code yX5_firstTurn cX5_firstTurn 5 (some .int), Cond.methodLink RX5 225 yX5_oddsNow, Cond.instanceMethod yX5_oddsNow, Cond.selects RX5 yX5_oddsNow yX5_oddsNow, Cond.code yX5_oddsNow cX5_oddsNow 4 (some .int), Cond.methodLink RX5 222 yX5_divisor, Cond.static yX5_divisor, Cond.code yX5_divisor cX5_divisor 5 (some .int), Cond.methodLink RX5 270 yX5_howMany, Cond.instanceMethod yX5_howMany, Cond.selects RX5 yX5_howMany yX5_howMany, Cond.code yX5_howMany cX5_howMany 2 (some .int), Cond.fieldLink RX5 91 "CubeTowerModel" "turns" "I", Cond.fieldLink RX5 94 "CubeTowerModel" "towers" "I", Cond.fieldLink RX5 216 "CubeTowerModel" "asks" "I", Cond.methodLink RX5 151 yX5_clashes, Cond.instanceMethod yX5_clashes, Cond.selects RX5 yX5_clashes yX5_clashes, Cond.code yX5_clashes cX5_clashes 1 (some .int), Cond.methodLink RX5 264 yX5_goodWalls, Cond.instanceMethod yX5_goodWalls]
def wsX5_digest_r8 : List Cond := [Cond.selects RX5 yX5_goodWalls yX5_goodWalls, Cond.code yX5_goodWalls cX5_goodWalls 3 (some .int), Cond.methodLink RX5 267 yX5_colours, Cond.instanceMethod yX5_colours, Cond.selects RX5 yX5_colours yX5_colours, Cond.code yX5_colours cX5_colours 4 (some .int)]
def wsX5_digest : List Cond := .code yX5_digest cX5_digest 3 (some .long) :: ((wsX5_digest_r1 ++ (wsX5_digest_r2 ++ (wsX5_digest_r3 ++ (wsX5_digest_r4 ++ (wsX5_digest_r5 ++ (wsX5_digest_r6 ++ (wsX5_digest_r7 ++ wsX5_digest_r8))))))) ++ wsX50)
def wsJ9_max_7cf53 : List Cond := .code yJ9_max_7cf53 cJ9_max_7cf53 2 (some .int) :: ([])
def wsJ9_min_7cf53 : List Cond := .code yJ9_min_7cf53 cJ9_min_7cf53 2 (some .int) :: ([])
def wsL_law_r1 : List Cond := [Cond.classLink RL 7 RX4, Cond.instantiable RX4 9, Cond.initialized RX4, Cond.classLink RL 10 RX5, Cond.instantiable RX5 30, Cond.initialized RX5, Cond.methodLink RL 9 yX4_init, Cond.instanceMethod yX4_init, Cond.code yX4_init cX4_init 1 none, Cond.methodLink RX4 3 objectInit, Cond.instanceMethod objectInit, Cond.code objectInit ⟨#[0xb1]⟩ 1 none, Cond.arrayClass .int, Cond.fieldLink RX4 9 "CubeTower" "page" "[I", Cond.classLink RX4 13 RX2, Cond.instantiable RX2 4, Cond.initialized RX2, Cond.fieldLink RX4 16 "CubeTower" "now" "LCubeTower$Tower;", Cond.fieldLink RX4 20 "CubeTower" "kept" "LCubeTower$Tower;", Cond.fieldLink RX4 23 "CubeTower" "trial" "LCubeTower$Tower;", Cond.classLink RX4 26 RX1, Cond.instantiable RX1 9, Cond.initialized RX1, Cond.fieldLink RX4 29 "CubeTower" "survey" "LCubeTower$Survey;"]
def wsL_law_r2 : List Cond := [Cond.instanceMethod yX2_init, Cond.code yX2_init cX2_init 1 none, Cond.methodLink RX2 3 objectInit, Cond.classLink RX2 9 RX0, Cond.instantiable RX0 3, Cond.initialized RX0, Cond.fieldLink RX2 12 "CubeTower$Tower" "cubes" "[LCubeTower$Cube;", Cond.instanceMethod yX0_init, Cond.code yX0_init cX0_init 1 none, Cond.methodLink RX0 3 objectInit, Cond.fieldLink RX0 9 "CubeTower$Cube" "sorts" "I", Cond.fieldLink RX0 15 "CubeTower$Cube" "colours" "[I", Cond.instanceMethod yX1_init, Cond.code yX1_init cX1_init 1 none, Cond.methodLink RX1 3 objectInit, Cond.classLink RX1 9 RX3, Cond.instantiable RX3 4, Cond.initialized RX3, Cond.fieldLink RX1 14 "CubeTower$Survey" "waysOfKind" "[LCubeTower$Ways;", Cond.fieldLink RX1 20 "CubeTower$Survey" "waysOfCube" "[LCubeTower$Ways;", Cond.classLink RX1 23 "[[I", Cond.fieldLink RX1 25 "CubeTower$Survey" "walls" "[[I", Cond.fieldLink RX1 28 "CubeTower$Survey" "pairs" "[I", Cond.methodLink RX1 11 yX3_init]
def wsL_law_r3 : List Cond := [Cond.instanceMethod yX3_init, Cond.code yX3_init cX3_init 4 none, Cond.methodLink RX3 3 objectInit, Cond.fieldLink RX3 9 "CubeTower$Ways" "size" "I", Cond.fieldLink RX3 15 "CubeTower$Ways" "sideAt" "[I", Cond.fieldLink RX3 19 "CubeTower$Ways" "turnsTo" "[I", Cond.fieldLink RX3 22 "CubeTower$Ways" "firstTurns" "[I", Cond.static yX4_canTurn, Cond.code yX4_canTurn cX4_canTurn 2 (some .boolean), Cond.fieldLink RX4 102 "CubeTower" "TURNS_OF_KIND" "[I", Cond.methodLink RX3 29 yX3_reach, Cond.instanceMethod yX3_reach, Cond.selects RX3 yX3_reach yX3_reach, Cond.code yX3_reach cX3_reach 5 none, Cond.methodLink RX3 33 arraycopyName, Cond.native arraycopyName, Cond.static arraycopyName, Cond.initialized "java/lang/System", Cond.static yX4_turnRow, Cond.code yX4_turnRow cX4_turnRow 10 none, Cond.fieldLink RX4 134 "CubeTower" "RINGS" "[I", Cond.methodLink RX3 43 yX3_find, Cond.instanceMethod yX3_find, Cond.selects RX3 yX3_find yX3_find]
def wsL_law_r4 : List Cond := [Cond.code yX3_find cX3_find 2 (some .int), Cond.methodLink RX3 47 yX3_sameRows, Cond.instanceMethod yX3_sameRows, Cond.selects RX3 yX3_sameRows yX3_sameRows, Cond.code yX3_sameRows cX3_sameRows 4 (some .boolean), Cond.methodLink RL 12 yX5_init, Cond.instanceMethod yX5_init, Cond.code yX5_init cX5_init 1 none, Cond.methodLink RX5 1 objectInit, Cond.fieldLink RX5 7 "CubeTowerModel" "kindOf" "[I", Cond.fieldLink RX5 13 "CubeTowerModel" "lies" "[I", Cond.fieldLink RX5 16 "CubeTowerModel" "seenCube" "[I", Cond.fieldLink RX5 19 "CubeTowerModel" "seenWhat" "[I", Cond.fieldLink RX5 22 "CubeTowerModel" "seenCould" "[I", Cond.arrayClass .byte, Cond.fieldLink RX5 25 "CubeTowerModel" "page" "[B", Cond.fieldLink RX5 29 "CubeTowerModel" "wayOf" "[I", Cond.fieldLink RX5 32 "CubeTowerModel" "farOf" "[I", Cond.fieldLink RX5 35 "CubeTowerModel" "manyOf" "[I", Cond.fieldLink RX5 38 "CubeTowerModel" "colourOf" "[I", Cond.fieldLink RX5 41 "CubeTowerModel" "thought" "[I", Cond.fieldLink RX5 44 "CubeTowerModel" "keptKind" "[I", Cond.fieldLink RX5 47 "CubeTowerModel" "keptLies" "[I", Cond.fieldLink RX5 50 "CubeTowerModel" "keptCube" "[I"]
def wsL_law_r5 : List Cond := [Cond.fieldLink RX5 53 "CubeTowerModel" "keptWhat" "[I", Cond.fieldLink RX5 56 "CubeTowerModel" "keptCould" "[I", Cond.methodLink RL 13 yX4_letter, Cond.instanceMethod yX4_letter, Cond.selects RX4 yX4_letter yX4_letter, Cond.code yX4_letter cX4_letter 2 (some .int), Cond.fieldLink RX4 33 "CubeTower" "letters" "I", Cond.methodLink RL 17 yX5_letter, Cond.instanceMethod yX5_letter, Cond.selects RX5 yX5_letter yX5_letter, Cond.code yX5_letter cX5_letter 2 (some .int), Cond.fieldLink RX5 63 "CubeTowerModel" "pageLength" "I", Cond.methodLink RX5 59 yX5_within, Cond.static yX5_within, Cond.code yX5_within cX5_within 3 (some .boolean), Cond.methodLink RL 18 yX4_blank, Cond.instanceMethod yX4_blank, Cond.selects RX4 yX4_blank yX4_blank, Cond.code yX4_blank cX4_blank 2 (some .int), Cond.methodLink RL 22 yX5_blank, Cond.instanceMethod yX5_blank, Cond.selects RX5 yX5_blank yX5_blank, Cond.code yX5_blank cX5_blank 2 (some .int), Cond.methodLink RL 23 yX4_fault]
def wsL_law_r6 : List Cond := [Cond.instanceMethod yX4_fault, Cond.selects RX4 yX4_fault yX4_fault, Cond.code yX4_fault cX4_fault 2 (some .int), Cond.methodLink RX4 37 yX4_fits, Cond.static yX4_fits, Cond.code yX4_fits cX4_fits 3 (some .boolean), Cond.methodLink RX4 61 yJ0_indexOf_0f7a4, Cond.instanceMethod yJ0_indexOf_0f7a4, Cond.selects RJ0 yJ0_indexOf_0f7a4 yJ0_indexOf_0f7a4, Cond.initialized RJ0, Cond.code yJ0_indexOf_0f7a4 cJ0_indexOf_0f7a4 2 (some .int), Cond.methodLink RJ0 633 yJ0_indexOf_7cf53, Cond.instanceMethod yJ0_indexOf_7cf53, Cond.selects RJ0 yJ0_indexOf_7cf53 yJ0_indexOf_7cf53, Cond.code yJ0_indexOf_7cf53 cJ0_indexOf_7cf53 3 (some .int), Cond.fieldLink RJ0 9 "java/lang/String" "value" "[B", Cond.methodLink RJ0 492 yJ0_isLatin1_aae02, Cond.instanceMethod yJ0_isLatin1_aae02, Cond.selects RJ0 yJ0_isLatin1_aae02 yJ0_isLatin1_aae02, Cond.code yJ0_isLatin1_aae02 cJ0_isLatin1_aae02 1 (some .boolean), Cond.fieldLink RJ0 38 "java/lang/String" "COMPACT_STRINGS" "Z", Cond.fieldLink RJ0 15 "java/lang/String" "coder" "B", Cond.methodLink RJ0 505 yJ0_length_8abf5, Cond.instanceMethod yJ0_length_8abf5]
def wsL_law_r7 : List Cond := [Cond.selects RJ0 yJ0_length_8abf5 yJ0_length_8abf5, Cond.code yJ0_length_8abf5 cJ0_length_8abf5 1 (some .int), Cond.methodLink RJ0 335 yJ0_coder_7d493, Cond.instanceMethod yJ0_coder_7d493, Cond.selects RJ0 yJ0_coder_7d493 yJ0_coder_7d493, Cond.code yJ0_coder_7d493 cJ0_coder_7d493 1 (some .byte), Cond.methodLink RJ0 637 yJ1_indexOf_4cfef, Cond.static yJ1_indexOf_4cfef, Cond.initialized RJ1, Cond.code yJ1_indexOf_4cfef cJ1_indexOf_4cfef 4 (some .int), Cond.methodLink RJ1 92 Lib.Math.max.name, Cond.static Lib.Math.max.name, Cond.initialized "java/lang/Math", Cond.code Lib.Math.max.name Lib.Math.max.code 2 (some .int), Cond.methodLink RJ1 38 Lib.Math.min.name, Cond.static Lib.Math.min.name, Cond.code Lib.Math.min.name Lib.Math.min.code 2 (some .int), Cond.methodLink RJ1 88 yJ1_canEncode_9a6ad, Cond.static yJ1_canEncode_9a6ad, Cond.code yJ1_canEncode_9a6ad cJ1_canEncode_9a6ad 1 (some .boolean), Cond.methodLink RJ1 95 yJ1_indexOfChar_4cfef, Cond.static yJ1_indexOfChar_4cfef, Cond.code yJ1_indexOfChar_4cfef cJ1_indexOfChar_4cfef 6 (some .int), Cond.methodLink RJ0 640 yJ2_indexOf_4cfef]
def wsL_law_r8 : List Cond := [Cond.static yJ2_indexOf_4cfef, Cond.initialized RJ2, Cond.code yJ2_indexOf_4cfef cJ2_indexOf_4cfef 4 (some .int), Cond.methodLink RJ2 224 Lib.Math.max.name, Cond.methodLink RJ2 183 Lib.Math.min.name, Cond.constant RJ2 227 (65536), Cond.methodLink RJ2 228 yJ2_indexOfChar_4cfef, Cond.static yJ2_indexOfChar_4cfef, Cond.code yJ2_indexOfChar_4cfef cJ2_indexOfChar_4cfef 4 (some .int), Cond.methodLink RJ2 96 yJ2_checkBoundsBeginEnd_d044e, Cond.static yJ2_checkBoundsBeginEnd_d044e, Cond.code yJ2_checkBoundsBeginEnd_d044e cJ2_checkBoundsBeginEnd_d044e 3 none, Cond.methodLink RJ2 48 yJ2_length_9d52b, Cond.static yJ2_length_9d52b, Cond.code yJ2_length_9d52b cJ2_length_9d52b 1 (some .int), Cond.methodLink RJ2 241 yJ0_checkBoundsBeginEnd_23922, Cond.static yJ0_checkBoundsBeginEnd_23922, Cond.code yJ0_checkBoundsBeginEnd_23922 cJ0_checkBoundsBeginEnd_23922 3 none, Cond.fieldLink RJ0 1053 "jdk/internal/util/Preconditions" "SIOOBE_FORMATTER" "Ljava/util/function/BiFunction;", Cond.methodLink RJ0 1062 yJ3_checkFromToIndex_8c36e, Cond.static yJ3_checkFromToIndex_8c36e, Cond.initialized RJ3, Cond.code yJ3_checkFromToIndex_8c36e cJ3_checkFromToIndex_8c36e 4 (some .int), Cond.methodLink RJ2 244 yJ2_indexOfCharUnsafe_4cfef]
def wsL_law_r9 : List Cond := [Cond.static yJ2_indexOfCharUnsafe_4cfef, Cond.code yJ2_indexOfCharUnsafe_4cfef cJ2_indexOfCharUnsafe_4cfef 5 (some .int), Cond.methodLink RJ2 71 yJ2_getChar_3b067, Cond.static yJ2_getChar_3b067, Cond.code yJ2_getChar_3b067 cJ2_getChar_3b067 2 (some .char), Cond.fieldLink RJ2 44 "java/lang/StringUTF16" "$assertionsDisabled" "Z", Cond.fieldLink RJ2 59 "java/lang/StringUTF16" "HI_BYTE_SHIFT" "I", Cond.fieldLink RJ2 63 "java/lang/StringUTF16" "LO_BYTE_SHIFT" "I", Cond.methodLink RJ2 232 yJ2_indexOfSupplementary_4cfef, Cond.static yJ2_indexOfSupplementary_4cfef, Cond.code yJ2_indexOfSupplementary_4cfef cJ2_indexOfSupplementary_4cfef 7 (some .int), Cond.methodLink RJ2 164 yJ11_isValidCodePoint_9a6ad, Cond.static yJ11_isValidCodePoint_9a6ad, Cond.initialized RJ11, Cond.code yJ11_isValidCodePoint_9a6ad cJ11_isValidCodePoint_9a6ad 2 (some .boolean), Cond.methodLink RJ2 157 yJ11_highSurrogate_5068e, Cond.static yJ11_highSurrogate_5068e, Cond.code yJ11_highSurrogate_5068e cJ11_highSurrogate_5068e 1 (some .char), Cond.constant RJ11 110 (55232), Cond.methodLink RJ2 161 yJ11_lowSurrogate_5068e, Cond.static yJ11_lowSurrogate_5068e, Cond.code yJ11_lowSurrogate_5068e cJ11_lowSurrogate_5068e 1 (some .char), Cond.constant RJ11 76 (56320), Cond.methodLink RL 26 yX5_fault]
def wsL_law_r10 : List Cond := [Cond.instanceMethod yX5_fault, Cond.selects RX5 yX5_fault yX5_fault, Cond.code yX5_fault cX5_fault 1 (some .int), Cond.methodLink RX5 84 yX5_read, Cond.instanceMethod yX5_read, Cond.selects RX5 yX5_read yX5_read, Cond.code yX5_read cX5_read 3 (some .int), Cond.fieldLink RX5 74 "CubeTowerModel" "isWhole" "Z", Cond.fieldLink RX5 78 "CubeTowerModel" "newCubes" "I", Cond.methodLink RX5 81 yX5_readCube, Cond.instanceMethod yX5_readCube, Cond.selects RX5 yX5_readCube yX5_readCube, Cond.code yX5_readCube cX5_readCube 3 (some .int), Cond.methodLink RX5 67 yX5_at, Cond.instanceMethod yX5_at, Cond.selects RX5 yX5_at yX5_at, Cond.code yX5_at cX5_at 2 (some .int), Cond.methodLink RX5 71 yX5_kindBy, Cond.static yX5_kindBy, Cond.code yX5_kindBy cX5_kindBy 1 (some .int), Cond.methodLink RL 27 yX4_tower, Cond.instanceMethod yX4_tower, Cond.selects RX4 yX4_tower yX4_tower, Cond.code yX4_tower cX4_tower 3 (some .int)]
def wsL_law_r11 : List Cond := [Cond.fieldLink RX4 49 "CubeTower" "towersRead" "I", Cond.fieldLink RX4 52 "CubeTower$Tower" "size" "I", Cond.fieldLink RX4 55 "CubeTower" "surveyed" "Z", Cond.methodLink RX4 41 yX4_fault, Cond.methodLink RX4 45 yX4_readPage, Cond.instanceMethod yX4_readPage, Cond.selects RX4 yX4_readPage yX4_readPage, Cond.code yX4_readPage cX4_readPage 5 none, Cond.fieldLink RX4 67 "CubeTower$Tower" "turns" "I", Cond.fieldLink RX4 73 "CubeTower$Tower" "cubes" "[LCubeTower$Cube;", Cond.fieldLink RX4 77 "CubeTower$Cube" "kind" "I", Cond.fieldLink RX4 82 "CubeTower$Cube" "colours" "[I", Cond.methodLink RX4 70 yX2_forgetAll, Cond.instanceMethod yX2_forgetAll, Cond.selects RX2 yX2_forgetAll yX2_forgetAll, Cond.code yX2_forgetAll cX2_forgetAll 2 none, Cond.fieldLink RX2 25 "CubeTower$Tower" "seen" "I", Cond.fieldLink RX2 32 "CubeTower$Cube" "sorts" "I", Cond.methodLink RL 30 yX5_tower, Cond.instanceMethod yX5_tower, Cond.selects RX5 yX5_tower yX5_tower, Cond.code yX5_tower cX5_tower 3 (some .int), Cond.fieldLink RX5 88 "CubeTowerModel" "cubes" "I", Cond.fieldLink RX5 91 "CubeTowerModel" "turns" "I"]
def wsL_law_r12 : List Cond := [Cond.fieldLink RX5 94 "CubeTowerModel" "towers" "I", Cond.fieldLink RX5 97 "CubeTowerModel" "seen" "I", Cond.methodLink RL 31 yX4_cube, Cond.instanceMethod yX4_cube, Cond.selects RX4 yX4_cube yX4_cube, Cond.code yX4_cube cX4_cube 4 (some .int), Cond.fieldLink RX4 89 "CubeTower$Survey" "waysOfKind" "[LCubeTower$Ways;", Cond.fieldLink RX4 93 "CubeTower$Ways" "size" "I", Cond.fieldLink RX4 96 "CubeTower$Cube" "sorts" "I", Cond.methodLink RX4 85 yX2_has, Cond.instanceMethod yX2_has, Cond.selects RX2 yX2_has yX2_has, Cond.code yX2_has cX2_has 2 (some .boolean), Cond.fieldLink RX2 18 "CubeTower$Tower" "size" "I", Cond.methodLink RX4 99 yX4_nextQuestion, Cond.static yX4_nextQuestion, Cond.code yX4_nextQuestion cX4_nextQuestion 7 (some .int), Cond.fieldLink RX4 111 "CubeTower" "KINDS_THAT_COULD" "[I", Cond.methodLink RX4 119 Lib.Math.max.name, Cond.methodLink RX4 114 yJ6_bitCount_0f7a4, Cond.static yJ6_bitCount_0f7a4, Cond.initialized RJ6, Cond.code yJ6_bitCount_0f7a4 cJ6_bitCount_0f7a4 1 (some .int), Cond.constant RJ6 265 (1431655765)]
def wsL_law_r13 : List Cond := [Cond.constant RJ6 266 (858993459), Cond.constant RJ6 267 (252645135), Cond.methodLink RL 35 yX5_cube, Cond.instanceMethod yX5_cube, Cond.selects RX5 yX5_cube yX5_cube, Cond.code yX5_cube cX5_cube 3 (some .int), Cond.methodLink RX5 123 yX5_isCube, Cond.instanceMethod yX5_isCube, Cond.selects RX5 yX5_isCube yX5_isCube, Cond.code yX5_isCube cX5_isCube 2 (some .boolean), Cond.methodLink RX5 127 yX5_cubeNow, Cond.instanceMethod yX5_cubeNow, Cond.selects RX5 yX5_cubeNow yX5_cubeNow, Cond.code yX5_cubeNow cX5_cubeNow 3 (some .int), Cond.methodLink RX5 111 yX5_waysOf, Cond.static yX5_waysOf, Cond.code yX5_waysOf cX5_waysOf 1 (some .int), Cond.methodLink RX5 114 yX5_sortsOf, Cond.instanceMethod yX5_sortsOf, Cond.selects RX5 yX5_sortsOf yX5_sortsOf, Cond.code yX5_sortsOf cX5_sortsOf 6 (some .int), Cond.methodLink RX5 228 yX5_could, Cond.static yX5_could, Cond.code yX5_could cX5_could 2 (some .boolean)]
def wsL_law_r14 : List Cond := [Cond.methodLink RX5 117 yX5_askOf, Cond.instanceMethod yX5_askOf, Cond.selects RX5 yX5_askOf yX5_askOf, Cond.code yX5_askOf cX5_askOf 9 (some .int), Cond.constant RX5 188 (1048576), Cond.methodLink RX5 144 yX5_isIn, Cond.static yX5_isIn, Cond.code yX5_isIn cX5_isIn 2 (some .boolean), Cond.methodLink RX5 231 yX5_size, Cond.static yX5_size, Cond.code yX5_size cX5_size 3 (some .int), Cond.methodLink RX5 120 yX5_turnsOf, Cond.static yX5_turnsOf, Cond.code yX5_turnsOf cX5_turnsOf 1 (some .int), Cond.methodLink RX5 100 yX5_side, Cond.static yX5_side, Cond.code yX5_side cX5_side 2 (some .int), Cond.methodLink RL 36 yX4_as, Cond.instanceMethod yX4_as, Cond.selects RX4 yX4_as yX4_as, Cond.code yX4_as cX4_as 3 (some .int), Cond.fieldLink RX4 105 "CubeTower" "KINDS_OF_KIND" "[I", Cond.methodLink RL 39 yX5_as, Cond.instanceMethod yX5_as]
def wsL_law_r15 : List Cond := [Cond.selects RX5 yX5_as yX5_as, Cond.code yX5_as cX5_as 4 (some .int), Cond.methodLink RL 40 yX4_wall, Cond.instanceMethod yX4_wall, Cond.selects RX4 yX4_wall yX4_wall, Cond.code yX4_wall cX4_wall 4 (some .int), Cond.methodLink RX4 108 yX2_clashesOn, Cond.instanceMethod yX2_clashesOn, Cond.selects RX2 yX2_clashesOn yX2_clashesOn, Cond.code yX2_clashesOn cX2_clashesOn 6 (some .int), Cond.fieldLink RX2 35 "CubeTower$Cube" "colours" "[I", Cond.methodLink RL 43 yX5_wall, Cond.instanceMethod yX5_wall, Cond.selects RX5 yX5_wall yX5_wall, Cond.code yX5_wall cX5_wall 3 (some .int), Cond.methodLink RX5 141 yX5_wallNow, Cond.instanceMethod yX5_wallNow, Cond.selects RX5 yX5_wallNow yX5_wallNow, Cond.code yX5_wallNow cX5_wallNow 4 (some .int), Cond.methodLink RX5 134 yX5_clashesOn, Cond.instanceMethod yX5_clashesOn, Cond.selects RX5 yX5_clashesOn yX5_clashesOn, Cond.code yX5_clashesOn cX5_clashesOn 5 (some .int), Cond.methodLink RX5 130 yX5_same]
def wsL_law_r16 : List Cond := [Cond.static yX5_same, Cond.code yX5_same cX5_same 3 (some .int), Cond.methodLink RL 44 yX4_turn, Cond.instanceMethod yX4_turn, Cond.selects RX4 yX4_turn yX4_turn, Cond.code yX4_turn cX4_turn 3 (some .int), Cond.methodLink RX4 125 yX4_canTurn, Cond.methodLink RX4 128 yX0_turnOver, Cond.instanceMethod yX0_turnOver, Cond.selects RX0 yX0_turnOver yX0_turnOver, Cond.code yX0_turnOver cX0_turnOver 2 none, Cond.fieldLink RX0 19 "CubeTower$Cube" "kind" "I", Cond.methodLink RX4 131 yX2_clashes, Cond.instanceMethod yX2_clashes, Cond.selects RX2 yX2_clashes yX2_clashes, Cond.code yX2_clashes cX2_clashes 3 (some .int), Cond.methodLink RX2 39 yX2_clashesOn, Cond.methodLink RL 47 yX5_turn, Cond.instanceMethod yX5_turn, Cond.selects RX5 yX5_turn yX5_turn, Cond.code yX5_turn cX5_turn 3 (some .int), Cond.methodLink RX5 148 yX5_turned, Cond.static yX5_turned, Cond.code yX5_turned cX5_turned 4 (some .int)]
def wsL_law_r17 : List Cond := [Cond.methodLink RX5 108 yX5_quarter, Cond.static yX5_quarter, Cond.code yX5_quarter cX5_quarter 2 (some .int), Cond.methodLink RX5 104 yX5_ring, Cond.static yX5_ring, Cond.code yX5_ring cX5_ring 6 (some .int), Cond.methodLink RX5 151 yX5_clashes, Cond.instanceMethod yX5_clashes, Cond.selects RX5 yX5_clashes yX5_clashes, Cond.code yX5_clashes cX5_clashes 1 (some .int), Cond.methodLink RX5 138 yX5_clashesOf, Cond.instanceMethod yX5_clashesOf, Cond.selects RX5 yX5_clashesOf yX5_clashesOf, Cond.code yX5_clashesOf cX5_clashesOf 6 (some .int), Cond.methodLink RL 48 yX4_paint, Cond.instanceMethod yX4_paint, Cond.selects RX4 yX4_paint yX4_paint, Cond.code yX4_paint cX4_paint 5 (some .int), Cond.methodLink RL 52 yX5_paint, Cond.instanceMethod yX5_paint, Cond.selects RX5 yX5_paint yX5_paint, Cond.code yX5_paint cX5_paint 5 (some .int), Cond.methodLink RX5 154 yX5_painted, Cond.static yX5_painted]
def wsL_law_r18 : List Cond := [Cond.code yX5_painted cX5_painted 3 (some .int), Cond.methodLink RL 53 yX4_swap, Cond.instanceMethod yX4_swap, Cond.selects RX4 yX4_swap yX4_swap, Cond.code yX4_swap cX4_swap 4 (some .int), Cond.methodLink RL 56 yX5_swap, Cond.instanceMethod yX5_swap, Cond.selects RX5 yX5_swap yX5_swap, Cond.code yX5_swap cX5_swap 5 (some .int), Cond.methodLink RL 57 yX4_be, Cond.instanceMethod yX4_be, Cond.selects RX4 yX4_be yX4_be, Cond.code yX4_be cX4_be 4 (some .int), Cond.methodLink RL 60 yX5_be, Cond.instanceMethod yX5_be, Cond.selects RX5 yX5_be yX5_be, Cond.code yX5_be cX5_be 4 (some .int), Cond.methodLink RL 61 yX4_ways, Cond.instanceMethod yX4_ways, Cond.selects RX4 yX4_ways yX4_ways, Cond.code yX4_ways cX4_ways 2 (some .int), Cond.fieldLink RX4 140 "CubeTower$Survey" "solutions" "I", Cond.fieldLink RX4 143 "CubeTower$Survey" "least" "I", Cond.methodLink RX4 137 yX4_lookAround]
def wsL_law_r19 : List Cond := [Cond.instanceMethod yX4_lookAround, Cond.selects RX4 yX4_lookAround yX4_lookAround, Cond.code yX4_lookAround cX4_lookAround 1 none, Cond.methodLink RX4 164 yX1_look, Cond.instanceMethod yX1_look, Cond.selects RX1 yX1_look yX1_look, Cond.code yX1_look cX1_look 5 none, Cond.fieldLink RX1 36 "CubeTower$Survey" "solutions" "I", Cond.fieldLink RX1 40 "CubeTower$Survey" "fewestTurns" "I", Cond.fieldLink RX1 43 "CubeTower$Survey" "firstTurns" "I", Cond.constant RX1 48 (2147483647), Cond.fieldLink RX1 49 "CubeTower$Survey" "least" "I", Cond.fieldLink RX1 52 "CubeTower$Ways" "size" "I", Cond.methodLink RX1 32 yX1_layOut, Cond.instanceMethod yX1_layOut, Cond.selects RX1 yX1_layOut yX1_layOut, Cond.code yX1_layOut cX1_layOut 7 none, Cond.fieldLink RX1 69 "CubeTower$Tower" "cubes" "[LCubeTower$Cube;", Cond.fieldLink RX1 73 "CubeTower$Cube" "kind" "I", Cond.methodLink RX1 63 yX2_has, Cond.methodLink RX1 78 yX1_wallsOf, Cond.static yX1_wallsOf, Cond.code yX1_wallsOf cX1_wallsOf 6 (some .int), Cond.fieldLink RX1 82 "CubeTower$Ways" "sideAt" "[I"]
def wsL_law_r20 : List Cond := [Cond.fieldLink RX1 85 "CubeTower$Cube" "colours" "[I", Cond.methodLink RX1 55 yJ6_bitCount_0f7a4, Cond.methodLink RX1 59 yX1_tryThird, Cond.instanceMethod yX1_tryThird, Cond.selects RX1 yX1_tryThird yX1_tryThird, Cond.code yX1_tryThird cX1_tryThird 9 none, Cond.methodLink RX1 88 Lib.Math.min.name, Cond.methodLink RX1 94 yX1_addSolution, Cond.instanceMethod yX1_addSolution, Cond.selects RX1 yX1_addSolution yX1_addSolution, Cond.code yX1_addSolution cX1_addSolution 5 none, Cond.fieldLink RX1 97 "CubeTower$Ways" "turnsTo" "[I", Cond.fieldLink RX1 100 "CubeTower$Ways" "firstTurns" "[I", Cond.methodLink RL 64 yX5_ways, Cond.instanceMethod yX5_ways, Cond.selects RX5 yX5_ways yX5_ways, Cond.code yX5_ways cX5_ways 2 (some .int), Cond.methodLink RX5 198 yX5_waysNow, Cond.instanceMethod yX5_waysNow, Cond.selects RX5 yX5_waysNow yX5_waysNow, Cond.code yX5_waysNow cX5_waysNow 2 (some .int), Cond.methodLink RX5 189 yX5_layAll, Cond.instanceMethod yX5_layAll, Cond.selects RX5 yX5_layAll yX5_layAll]
def wsL_law_r21 : List Cond := [Cond.code yX5_layAll cX5_layAll 2 none, Cond.constant RX5 164 (181896), Cond.methodLink RX5 165 yX5_layWays, Cond.instanceMethod yX5_layWays, Cond.selects RX5 yX5_layWays yX5_layWays, Cond.code yX5_layWays cX5_layWays 5 none, Cond.methodLink RX5 157 yX5_take, Cond.instanceMethod yX5_take, Cond.selects RX5 yX5_take yX5_take, Cond.code yX5_take cX5_take 5 none, Cond.methodLink RX5 169 yX5_layColours, Cond.instanceMethod yX5_layColours, Cond.selects RX5 yX5_layColours yX5_layColours, Cond.code yX5_layColours cX5_layColours 3 none, Cond.methodLink RX5 161 yX5_laid, Cond.static yX5_laid, Cond.code yX5_laid cX5_laid 4 (some .int), Cond.methodLink RX5 192 yX5_solutions, Cond.instanceMethod yX5_solutions, Cond.selects RX5 yX5_solutions yX5_solutions, Cond.code yX5_solutions cX5_solutions 3 (some .int), Cond.methodLink RX5 182 yX5_all, Cond.instanceMethod yX5_all, Cond.selects RX5 yX5_all yX5_all]
def wsL_law_r22 : List Cond := [Cond.code yX5_all cX5_all 3 (some .int), Cond.methodLink RX5 185 yX5_clashesBy, Cond.instanceMethod yX5_clashesBy, Cond.selects RX5 yX5_clashesBy yX5_clashesBy, Cond.code yX5_clashesBy cX5_clashesBy 2 (some .int), Cond.methodLink RX5 173 yX5_first, Cond.instanceMethod yX5_first, Cond.selects RX5 yX5_first yX5_first, Cond.code yX5_first cX5_first 2 (some .int), Cond.methodLink RX5 176 yX5_second, Cond.instanceMethod yX5_second, Cond.selects RX5 yX5_second yX5_second, Cond.code yX5_second cX5_second 2 (some .int), Cond.methodLink RX5 179 yX5_third, Cond.instanceMethod yX5_third, Cond.selects RX5 yX5_third yX5_third, Cond.code yX5_third cX5_third 2 (some .int), Cond.methodLink RX5 195 yX5_leastClashes, Cond.instanceMethod yX5_leastClashes, Cond.selects RX5 yX5_leastClashes yX5_leastClashes, Cond.code yX5_leastClashes cX5_leastClashes 3 (some .int), Cond.methodLink RL 65 yX4_turning, Cond.instanceMethod yX4_turning, Cond.selects RX4 yX4_turning yX4_turning]
def wsL_law_r23 : List Cond := [Cond.code yX4_turning cX4_turning 2 (some .int), Cond.fieldLink RX4 146 "CubeTower$Survey" "fewestTurns" "I", Cond.methodLink RX4 149 yX1_firstTurn, Cond.instanceMethod yX1_firstTurn, Cond.selects RX1 yX1_firstTurn yX1_firstTurn, Cond.code yX1_firstTurn cX1_firstTurn 2 (some .int), Cond.methodLink RX1 102 yJ6_numberOfTrailingZeros_0f7a4, Cond.static yJ6_numberOfTrailingZeros_0f7a4, Cond.code yJ6_numberOfTrailingZeros_0f7a4 cJ6_numberOfTrailingZeros_0f7a4 2 (some .int), Cond.constant RJ6 264 (65536), Cond.methodLink RL 68 yX5_turning, Cond.instanceMethod yX5_turning, Cond.selects RX5 yX5_turning yX5_turning, Cond.code yX5_turning cX5_turning 2 (some .int), Cond.methodLink RX5 210 yX5_turningNow, Cond.instanceMethod yX5_turningNow, Cond.selects RX5 yX5_turningNow yX5_turningNow, Cond.code yX5_turningNow cX5_turningNow 3 (some .int), Cond.methodLink RX5 204 yX5_fewestTurns, Cond.instanceMethod yX5_fewestTurns, Cond.selects RX5 yX5_fewestTurns yX5_fewestTurns, Cond.code yX5_fewestTurns cX5_fewestTurns 3 (some .int), Cond.methodLink RX5 201 yX5_farBy, Cond.instanceMethod yX5_farBy]
def wsL_law_r24 : List Cond := [Cond.selects RX5 yX5_farBy yX5_farBy, Cond.code yX5_farBy cX5_farBy 2 (some .int), Cond.methodLink RX5 207 yX5_firstTurn, Cond.instanceMethod yX5_firstTurn, Cond.selects RX5 yX5_firstTurn yX5_firstTurn, Cond.code yX5_firstTurn cX5_firstTurn 5 (some .int), Cond.methodLink RL 69 yX4_repaint, Cond.instanceMethod yX4_repaint, Cond.selects RX4 yX4_repaint yX4_repaint, Cond.code yX4_repaint cX4_repaint 1 (some .int), Cond.fieldLink RX4 152 "CubeTower" "repaints" "I", Cond.methodLink RX4 155 yX1_sideToPaint, Cond.instanceMethod yX1_sideToPaint, Cond.selects RX1 yX1_sideToPaint yX1_sideToPaint, Cond.code yX1_sideToPaint cX1_sideToPaint 5 (some .int), Cond.methodLink RX1 105 yX1_pairOthers, Cond.instanceMethod yX1_pairOthers, Cond.selects RX1 yX1_pairOthers yX1_pairOthers, Cond.code yX1_pairOthers cX1_pairOthers 8 none, Cond.fieldLink RX1 111 "CubeTower$Survey" "pairCount" "I", Cond.methodLink RX1 108 yX1_helpfulColours, Cond.instanceMethod yX1_helpfulColours, Cond.selects RX1 yX1_helpfulColours yX1_helpfulColours, Cond.code yX1_helpfulColours cX1_helpfulColours 6 (some .int)]
def wsL_law_r25 : List Cond := [Cond.methodLink RX1 114 yX3_placeOf, Cond.instanceMethod yX3_placeOf, Cond.selects RX3 yX3_placeOf yX3_placeOf, Cond.code yX3_placeOf cX3_placeOf 4 (some .int), Cond.methodLink RX1 117 yX1_coloursFree, Cond.instanceMethod yX1_coloursFree, Cond.selects RX1 yX1_coloursFree yX1_coloursFree, Cond.code yX1_coloursFree cX1_coloursFree 6 (some .int), Cond.methodLink RL 72 yX5_repaint, Cond.instanceMethod yX5_repaint, Cond.selects RX5 yX5_repaint yX5_repaint, Cond.code yX5_repaint cX5_repaint 1 (some .int), Cond.fieldLink RX5 216 "CubeTowerModel" "asks" "I", Cond.methodLink RX5 219 yX5_repaintNow, Cond.instanceMethod yX5_repaintNow, Cond.selects RX5 yX5_repaintNow yX5_repaintNow, Cond.code yX5_repaintNow cX5_repaintNow 5 (some .int), Cond.methodLink RX5 213 yX5_isBy, Cond.instanceMethod yX5_isBy, Cond.selects RX5 yX5_isBy yX5_isBy, Cond.code yX5_isBy cX5_isBy 6 (some .boolean), Cond.methodLink RL 73 yX4_odds, Cond.instanceMethod yX4_odds, Cond.selects RX4 yX4_odds yX4_odds]
def wsL_law_r26 : List Cond := [Cond.code yX4_odds cX4_odds 5 (some .int), Cond.methodLink RX4 158 yX1_allWays, Cond.instanceMethod yX1_allWays, Cond.selects RX1 yX1_allWays yX1_allWays, Cond.code yX1_allWays cX1_allWays 1 (some .int), Cond.methodLink RX4 161 yX4_commonDivisor, Cond.static yX4_commonDivisor, Cond.code yX4_commonDivisor cX4_commonDivisor 6 (some .int), Cond.methodLink RL 76 yX5_odds, Cond.instanceMethod yX5_odds, Cond.selects RX5 yX5_odds yX5_odds, Cond.code yX5_odds cX5_odds 2 (some .int), Cond.methodLink RX5 225 yX5_oddsNow, Cond.instanceMethod yX5_oddsNow, Cond.selects RX5 yX5_oddsNow yX5_oddsNow, Cond.code yX5_oddsNow cX5_oddsNow 4 (some .int), Cond.methodLink RX5 222 yX5_divisor, Cond.static yX5_divisor, Cond.code yX5_divisor cX5_divisor 5 (some .int), Cond.methodLink RL 77 yX4_see, Cond.instanceMethod yX4_see, Cond.selects RX4 yX4_see yX4_see, Cond.code yX4_see cX4_see 5 (some .int), Cond.fieldLink RX4 168 "CubeTower$Tower" "seen" "I"]
def wsL_law_r27 : List Cond := [Cond.methodLink RL 81 yX5_see, Cond.instanceMethod yX5_see, Cond.selects RX5 yX5_see yX5_see, Cond.code yX5_see cX5_see 4 (some .int), Cond.methodLink RL 82 yX4_forget, Cond.instanceMethod yX4_forget, Cond.selects RX4 yX4_forget yX4_forget, Cond.code yX4_forget cX4_forget 2 (some .int), Cond.methodLink RL 85 yX5_forget, Cond.instanceMethod yX5_forget, Cond.selects RX5 yX5_forget yX5_forget, Cond.code yX5_forget cX5_forget 2 (some .int), Cond.methodLink RL 86 yX4_runs, Cond.instanceMethod yX4_runs, Cond.selects RX4 yX4_runs yX4_runs, Cond.code yX4_runs cX4_runs 9 (some .int), Cond.methodLink RX4 171 yX2_copyFrom, Cond.instanceMethod yX2_copyFrom, Cond.selects RX2 yX2_copyFrom yX2_copyFrom, Cond.code yX2_copyFrom cX2_copyFrom 3 none, Cond.fieldLink RX2 22 "CubeTower$Tower" "turns" "I", Cond.methodLink RX2 28 yX0_copyFrom, Cond.instanceMethod yX0_copyFrom, Cond.selects RX0 yX0_copyFrom yX0_copyFrom]
def wsL_law_r28 : List Cond := [Cond.code yX0_copyFrom cX0_copyFrom 2 none, Cond.methodLink RX0 26 arraycopyName, Cond.methodLink RX4 174 yX4_nextSeed, Cond.static yX4_nextSeed, Cond.code yX4_nextSeed cX4_nextSeed 1 (some .int), Cond.constantLong RX4 180 (1103515245), Cond.constantLong RX4 182 (12345), Cond.constantLong RX4 184 (2147483647), Cond.methodLink RX4 177 yX4_draw, Cond.static yX4_draw, Cond.code yX4_draw cX4_draw 2 (some .int), Cond.constant RX4 186 (65536), Cond.methodLink RL 89 yX5_runs, Cond.instanceMethod yX5_runs, Cond.selects RX5 yX5_runs yX5_runs, Cond.code yX5_runs cX5_runs 4 (some .int), Cond.methodLink RX5 249 yX5_runsNow, Cond.instanceMethod yX5_runsNow, Cond.selects RX5 yX5_runsNow yX5_runsNow, Cond.code yX5_runsNow cX5_runsNow 8 (some .int), Cond.fieldLink RX5 236 "CubeTowerModel" "seedNow" "J", Cond.methodLink RX5 246 yX5_draw, Cond.instanceMethod yX5_draw, Cond.selects RX5 yX5_draw yX5_draw]
def wsL_law_r29 : List Cond := [Cond.code yX5_draw cX5_draw 2 (some .int), Cond.constantLong RX5 234 (1103515245), Cond.constantLong RX5 240 (12345), Cond.constantLong RX5 242 (2147483647), Cond.constantLong RX5 244 (65536), Cond.methodLink RL 90 yX4_image, Cond.instanceMethod yX4_image, Cond.selects RX4 yX4_image yX4_image, Cond.code yX4_image cX4_image 1 (some .int), Cond.methodLink RL 93 yX5_image, Cond.instanceMethod yX5_image, Cond.selects RX5 yX5_image yX5_image, Cond.code yX5_image cX5_image 2 (some .int), Cond.fieldLink RX5 252 "CubeTowerModel" "isKept" "Z", Cond.fieldLink RX5 255 "CubeTowerModel" "keptTower" "I", Cond.fieldLink RX5 258 "CubeTowerModel" "keptTurns" "I", Cond.fieldLink RX5 261 "CubeTowerModel" "keptSeen" "I", Cond.methodLink RL 94 yX4_restore, Cond.instanceMethod yX4_restore, Cond.selects RX4 yX4_restore yX4_restore, Cond.code yX4_restore cX4_restore 1 (some .int), Cond.methodLink RL 97 yX5_restore, Cond.instanceMethod yX5_restore, Cond.selects RX5 yX5_restore yX5_restore]
def wsL_law_r30 : List Cond := [Cond.code yX5_restore cX5_restore 2 (some .int), Cond.methodLink RL 98 yX4_count, Cond.instanceMethod yX4_count, Cond.selects RX4 yX4_count yX4_count, Cond.code yX4_count cX4_count 2 (some .int), Cond.methodLink RX4 187 yX2_goodWalls, Cond.instanceMethod yX2_goodWalls, Cond.selects RX2 yX2_goodWalls yX2_goodWalls, Cond.code yX2_goodWalls cX2_goodWalls 3 (some .int), Cond.methodLink RX4 190 yX2_coloursUsed, Cond.instanceMethod yX2_coloursUsed, Cond.selects RX2 yX2_coloursUsed yX2_coloursUsed, Cond.code yX2_coloursUsed cX2_coloursUsed 4 (some .int), Cond.methodLink RX2 43 yJ6_bitCount_0f7a4, Cond.methodLink RL 101 yX5_count, Cond.instanceMethod yX5_count, Cond.selects RX5 yX5_count yX5_count, Cond.code yX5_count cX5_count 2 (some .int), Cond.methodLink RX5 270 yX5_howMany, Cond.instanceMethod yX5_howMany, Cond.selects RX5 yX5_howMany yX5_howMany, Cond.code yX5_howMany cX5_howMany 2 (some .int), Cond.methodLink RX5 264 yX5_goodWalls, Cond.instanceMethod yX5_goodWalls]
def wsL_law_r31 : List Cond := [Cond.selects RX5 yX5_goodWalls yX5_goodWalls, Cond.code yX5_goodWalls cX5_goodWalls 3 (some .int), Cond.methodLink RX5 267 yX5_colours, Cond.instanceMethod yX5_colours, Cond.selects RX5 yX5_colours yX5_colours, Cond.code yX5_colours cX5_colours 4 (some .int), Cond.methodLink RL 102 yX4_digest, Cond.instanceMethod yX4_digest, Cond.selects RX4 yX4_digest yX4_digest, Cond.code yX4_digest cX4_digest 4 (some .long), Cond.constantLong RX4 193 (1319), Cond.constantLong RX4 203 (31), Cond.methodLink RX4 195 yX4_addCube, Cond.instanceMethod yX4_addCube, Cond.selects RX4 yX4_addCube yX4_addCube, Cond.code yX4_addCube cX4_addCube 7 (some .long), Cond.methodLink RX4 208 yX4_cube, Cond.methodLink RX4 199 yX4_addWholeTower, Cond.instanceMethod yX4_addWholeTower, Cond.selects RX4 yX4_addWholeTower yX4_addWholeTower, Cond.code yX4_addWholeTower cX4_addWholeTower 6 (some .long), Cond.methodLink RX4 211 yX4_wall, Cond.methodLink RX4 214 yX4_ways, Cond.methodLink RX4 217 yX4_turning]
def wsL_law_r32 : List Cond := [Cond.methodLink RX4 220 yX4_odds, Cond.methodLink RX4 205 yX4_count, Cond.methodLink RL 106 yX5_digest, Cond.instanceMethod yX5_digest, Cond.selects RX5 yX5_digest yX5_digest, Cond.code yX5_digest cX5_digest 3 (some .long), Cond.constantLong RX5 282 (1319), Cond.fieldLink RX5 275 "CubeTowerModel" "h" "J", Cond.methodLink RX5 278 yX5_mix, Cond.instanceMethod yX5_mix, Cond.selects RX5 yX5_mix yX5_mix, Cond.code yX5_mix cX5_mix 3 none, Cond.constantLong RX5 273 (31), Cond.methodLink RX5 284 yX5_mixTower, Cond.instanceMethod yX5_mixTower, Cond.selects RX5 yX5_mixTower yX5_mixTower, Cond.code yX5_mixTower cX5_mixTower 2 none]
def wsL_law : List Cond := (wsL_law_r1 ++ (wsL_law_r2 ++ (wsL_law_r3 ++ (wsL_law_r4 ++ (wsL_law_r5 ++ (wsL_law_r6 ++ (wsL_law_r7 ++ (wsL_law_r8 ++ (wsL_law_r9 ++ (wsL_law_r10 ++ (wsL_law_r11 ++ (wsL_law_r12 ++ (wsL_law_r13 ++ (wsL_law_r14 ++ (wsL_law_r15 ++ (wsL_law_r16 ++ (wsL_law_r17 ++ (wsL_law_r18 ++ (wsL_law_r19 ++ (wsL_law_r20 ++ (wsL_law_r21 ++ (wsL_law_r22 ++ (wsL_law_r23 ++ (wsL_law_r24 ++ (wsL_law_r25 ++ (wsL_law_r26 ++ (wsL_law_r27 ++ (wsL_law_r28 ++ (wsL_law_r29 ++ (wsL_law_r30 ++ (wsL_law_r31 ++ wsL_law_r32))))))))))))))))))))))))))))))) ++ wsX40 ++ wsX50 ++ wsX20 ++ wsX10 ++ wsX00 ++ wsX30 ++ ([] : List Cond)
abbrev vwCl : List vw_C := [(RX0, TX0, 3), (RX1, TX1, 9), (RX2, TX2, 4), (RX3, TX3, 4), (RX4, TX4, 9), (RX5, TX5, 30)]
end
section
-- what every contract of this claim takes as given beside its own cells
def fTK : Nat → Int32 := fun j => if j = 0 then 15 else if j = 1 then 3 else if j = 2 then 12 else if j = 3 then 0 else 3
def fRG : Nat → Int32 := fun j => if j = 0 then 2 else if j = 1 then 4 else if j = 2 then 3 else if j = 3 then 5 else if j = 4 then 0 else if j = 5 then 2 else if j = 6 then 1 else 3
def fKK : Nat → Int32 := fun j => if j = 0 then 1 else if j = 1 then 3 else if j = 2 then 5 else if j = 3 then 9 else 19
def fKC : Nat → Int32 := fun j => if j = 0 then 3 else if j = 1 then 5 else 19
abbrev TY (cy : Nat → ClassId) : List (ClassId × FieldType) := [(cy 0, .int), (cy 1, .byte), (cy 2, .object RX0), (cy 3, .object RX3), (cy 4, .array .int)]
def sx_st (nm : String) (N : Nat) (f : Nat → Int32) (A : Nat → Prop) (U : State) : Prop := ∃ t : Nat, va_Z "CubeTower" nm "[I" (.ref t) A U U.heap ∧ va_T .int t N (fun j => .int (f j)) A U U.heap
def sx_nt (U : State) : Prop := va_Nw (.methodLinkNest RX4 15 yX2_init "CubeTower") U ∧ va_Nw (.methodLinkNest RX2 11 yX0_init "CubeTower") U ∧ va_Nw (.methodLinkNest RX4 28 yX1_init "CubeTower") U ∧ va_Nw (.methodLinkNest RX3 25 yX4_canTurn "CubeTower") U ∧ va_Nw (.methodLinkNest RX3 39 yX4_turnRow "CubeTower") U ∧ va_Nw (.methodLinkNest RX0 22 yX4_turnRow "CubeTower") U
def sx_ao (U : State) : Prop := va_AO RX0 U ∧ va_AO RX3 U ∧ va_Nw (.arrayOver (.array .int)) U
def sx (D : va_G) (cy : Nat → ClassId) (A : Nat → Prop) (U : State) : Prop := va_K D vwCl (TY cy) U ∧ (sx_st "TURNS_OF_KIND" 5 fTK A U ∧ sx_st "RINGS" 8 fRG A U ∧ sx_st "KINDS_OF_KIND" 5 fKK A U ∧ sx_st "KINDS_THAT_COULD" 3 fKC A U) ∧ sx_nt U ∧ sx_ao U
theorem sx_st.to {nm : String} {N : Nat} {f : Nat → Int32} {A B : Nat → Prop} {s U : State} {H : Heap} {locs : List Loc} (h : sx_st nm N f A s) (hU : U.heap = H) (hvm : s.vm.Alike U.vm) (hS : va_S A s.heap H locs) (hBA : ∀ q, B q → A q) : sx_st nm N f B U := by
  obtain ⟨t, h1, h2⟩ := h
  subst hU
  exact ⟨t, ((h1.kept hS.2.1).moved hvm).narrow hBA, ((h2.kept hS.2.1).moved hvm).narrow hBA⟩
theorem sx.to {D : va_G} {cy : Nat → ClassId} {A B : Nat → Prop} {s U : State} {H : Heap} {locs : List Loc} (h : sx D cy A s) (hU : U.heap = H) (hW : s.WarmedH U.vm) (hS : va_S A s.heap H locs) (hBA : ∀ q, B q → A q) : sx D cy B U := by
  obtain ⟨hK, ⟨a1, a2, a3, a4⟩, ⟨n1, n2, n3, n4, n5, n6⟩, o1, o2, o3⟩ := h
  have hvm := hW.alike
  exact ⟨va_K.moved hvm hK, ⟨a1.to hU hvm hS hBA, a2.to hU hvm hS hBA, a3.to hU hvm hS hBA, a4.to hU hvm hS hBA⟩, ⟨n1.warmM hW, n2.warmM hW, n3.warmM hW, n4.warmM hW, n5.warmM hW, n6.warmM hW⟩, o1.moved hvm, o2.moved hvm, arrayOver_alikeB hvm o3⟩
theorem sx.calling {D : va_G} {cy : Nat → ClassId} {A : Nat → Prop} {U : State} (g : JFrame) (mk : MethodId) (a : Array Value) (h : sx D cy A U) : sx D cy A (U.calling g mk a) := by
  obtain ⟨hK, ⟨⟨t1, a1, b1⟩, ⟨t2, a2, b2⟩, ⟨t3, a3, b3⟩, t4, a4, b4⟩, ⟨n1, n2, n3, n4, n5, n6⟩, o1, o2, o3⟩ := h
  have hv : U.vm.Alike (U.calling g mk a).vm := Vm.Alike.refl U.vm
  exact ⟨va_K.moved hv hK, ⟨⟨t1, va_Z.moved hv a1, va_T.moved hv b1⟩, ⟨t2, va_Z.moved hv a2, va_T.moved hv b2⟩, ⟨t3, va_Z.moved hv a3, va_T.moved hv b3⟩, t4, va_Z.moved hv a4, va_T.moved hv b4⟩, ⟨va_Nw.same rfl rfl n1, va_Nw.same rfl rfl n2, va_Nw.same rfl rfl n3, va_Nw.same rfl rfl n4, va_Nw.same rfl rfl n5, va_Nw.same rfl rfl n6⟩, va_AO.moved hv o1, va_AO.moved hv o2, arrayOver_alikeB hv o3⟩
def cpre (D : va_G) (cy : Nat → ClassId) (ws : va_W) (sz : Nat) (U : State) : Prop := U.heap.size = sz ∧ va_P D vwCl ws U.heap ∧ va_D (fun _ => True) ws ∧ sx D cy (va_A ws sz) U
def cpost (D : va_G) (A : Nat → Prop) (u : va_W) (t : State) : Prop := va_P D vwCl u t.heap ∧ va_D A u
theorem cpre_blind {av : List Value} {D : va_G} {cy : Nat → ClassId} {ws : va_W} {sz : Nat} : FrameBlind (va_Pc av (cpre D cy ws sz)) := fun a U g mk q => ⟨q.1, q.2.1, q.2.2.1, q.2.2.2.1, q.2.2.2.2.calling g mk a⟩
theorem vP_cut {D : va_G} {cl : List vw_C} {ws wc : va_W} {H : Heap} (hP : va_P D cl ws H) (isC : List Nat) (hC : isC.map (fun i => ws[i]?) = wc.map some) : va_P D cl wc H := by
  intro k q hq
  have h1 : (isC.map (fun i => ws[i]?))[k]? = some (some q) := by rw [hC, List.getElem?_map, hq]; rfl
  rw [List.getElem?_map] at h1
  cases hi : isC[k]? with
  | none => rw [hi] at h1; cases h1
  | some i => rw [hi] at h1; exact hP i q (Option.some.inj h1)
theorem cpre_S {D : va_G} {cy : Nat → ClassId} {A : Nat → Prop} {s : State} {H : Heap} {locs : List Loc} {av : List Value} {ws wc : va_W} (hX : sx D cy A s) (hP : va_P D vwCl ws H) (hD : va_D A ws) (hS : va_S A s.heap H locs) (hA : ∀ q, s.heap.size ≤ q → A q) (isC : List Nat) (hn : va_nd isC = true) (hC : isC.map (fun i => ws[i]?) = wc.map some) : PreS s H (va_Pc av (cpre D cy wc H.size)) av :=
  ⟨cpre_blind, fun U hU hW => ⟨rfl, by rw [hU], by rw [hU]; exact vP_cut hP isC hC, (hD.sub isC hn hC).weaken (fun _ _ _ _ => trivial), hX.to hU hW hS (va_free hD hS hA isC hC)⟩⟩
theorem cpre_V {D : va_G} {cy : Nat → ClassId} {A : Nat → Prop} {s : State} {H : Heap} {locs : List Loc} {As : List Value} {ws wc : va_W} {b : Nat} {r : vw_C} {fs : List Value} (q0 ci : Nat) (hc : vwCl[ci]? = some r) (he : ws[q0]? = some (b, .inr (ci, fs))) (hX : sx D cy A s) (hP : va_P D vwCl ws H) (hD : va_D A ws) (hS : va_S A s.heap H locs) (hA : ∀ q, s.heap.size ≤ q → A q) (isC : List Nat) (hn : va_nd isC = true) (hC : isC.map (fun i => ws[i]?) = wc.map some) : PreV s H r.1 b (va_Pc (.ref b :: As) (cpre D cy wc H.size)) As :=
  ⟨cpre_blind, va_recv hX.1 hP hc he, (cpre_S hX hP hD hS hA isC hn hC).2⟩
section KC
variable {p : Program} {l : Launch} {e : Env} {R : Room} {s : State} {m : MethodId} {args : Array Value} {below : List Frame} {meth : Method} {c : Code} {H : Heap} {locs : List Loc} {cells slots : Nat} {Q : State → Prop}
variable {cc : ByteArray} {pc : Nat} {ls : Array Slot} {rest st0 : List Value} {D : va_G} {cy : Nat → ClassId} {A : Nat → Prop} {ws wc wr : va_W} {mc ms : Nat} {a : Array Value}
theorem kc_i {post : Int32 → va_W → Prop} (hr : va_Run p l e R s m args below meth c H locs cells slots mc ms (F0 m pc ls st0) rest (va_Qi post (cpost D (va_A wc H.size)) (va_A wc H.size) a) (va_A wc H.size)) (hP : va_P D vwCl ws H) (hD : va_D A ws) (hS : va_S A s.heap H locs) (hA : ∀ q, s.heap.size ≤ q → A q) (isC isR : List Nat) (hC : isC.map (fun i => ws[i]?) = wc.map some) (hR : isR.map (fun i => ws[i]?) = wr.map some) (hn : va_nd isR = true) (hdis : ∀ i ∈ isR, i ∉ isC)
    (kk : ∀ (r : Int32) (u : va_W) (H1 : Heap) (locs1 : List Loc), post r u → va_P D vwCl (wr ++ u) H1 → va_D A (wr ++ u) → va_S A s.heap H1 locs1 → W p l e R s m args below meth c H1 locs1 (cells + mc) (slots + ms) Q (F0 m (pc + 3) ls (.int r :: rest))) : W p l e R s m args below meth c H locs cells slots Q (F0 m pc ls st0) := by
  refine va_calli hr hS (fun q _ h => va_free hD hS hA isC hC q h) (va_free hD hS hA isC hC) (fun r u t H1 locs1 ht hvm hw hB hz1 hk1 hS1 => ?_)
  obtain ⟨hP1, hD1⟩ := hB
  rw [ht] at hP1
  obtain ⟨hP2, hD2⟩ := va_join hP hD isC isR hC hR hn hdis hk1 (va_free hD hS hA isC hC) hP1 hD1
  exact kk r u H1 locs1 hw hP2 hD2 hS1
theorem kc_l {post : Int64 → va_W → Prop} (hr : va_Run p l e R s m args below meth c H locs cells slots mc ms (F0 m pc ls st0) rest (va_Ql post (cpost D (va_A wc H.size)) (va_A wc H.size) a) (va_A wc H.size)) (hP : va_P D vwCl ws H) (hD : va_D A ws) (hS : va_S A s.heap H locs) (hA : ∀ q, s.heap.size ≤ q → A q) (isC isR : List Nat) (hC : isC.map (fun i => ws[i]?) = wc.map some) (hR : isR.map (fun i => ws[i]?) = wr.map some) (hn : va_nd isR = true) (hdis : ∀ i ∈ isR, i ∉ isC)
    (kk : ∀ (r : Int64) (u : va_W) (H1 : Heap) (locs1 : List Loc), post r u → va_P D vwCl (wr ++ u) H1 → va_D A (wr ++ u) → va_S A s.heap H1 locs1 → W p l e R s m args below meth c H1 locs1 (cells + mc) (slots + ms) Q (F0 m (pc + 3) ls (.long r :: rest))) : W p l e R s m args below meth c H locs cells slots Q (F0 m pc ls st0) := by
  refine va_calll hr hS (fun q _ h => va_free hD hS hA isC hC q h) (va_free hD hS hA isC hC) (fun r u t H1 locs1 ht hvm hw hB hz1 hk1 hS1 => ?_)
  obtain ⟨hP1, hD1⟩ := hB
  rw [ht] at hP1
  obtain ⟨hP2, hD2⟩ := va_join hP hD isC isR hC hR hn hdis hk1 (va_free hD hS hA isC hC) hP1 hD1
  exact kk r u H1 locs1 hw hP2 hD2 hS1
theorem kc_v {post : va_W → Prop} (hr : va_Run p l e R s m args below meth c H locs cells slots mc ms (F0 m pc ls st0) rest (va_Qv post (cpost D (va_A wc H.size)) (va_A wc H.size) a) (va_A wc H.size)) (hP : va_P D vwCl ws H) (hD : va_D A ws) (hS : va_S A s.heap H locs) (hA : ∀ q, s.heap.size ≤ q → A q) (isC isR : List Nat) (hC : isC.map (fun i => ws[i]?) = wc.map some) (hR : isR.map (fun i => ws[i]?) = wr.map some) (hn : va_nd isR = true) (hdis : ∀ i ∈ isR, i ∉ isC)
    (kk : ∀ (u : va_W) (H1 : Heap) (locs1 : List Loc), post u → va_P D vwCl (wr ++ u) H1 → va_D A (wr ++ u) → va_S A s.heap H1 locs1 → W p l e R s m args below meth c H1 locs1 (cells + mc) (slots + ms) Q (F0 m (pc + 3) ls rest)) : W p l e R s m args below meth c H locs cells slots Q (F0 m pc ls st0) := by
  refine va_callv hr hS (fun q _ h => va_free hD hS hA isC hC q h) (va_free hD hS hA isC hC) (fun u t H1 locs1 ht hvm hw hB hz1 hk1 hS1 => ?_)
  obtain ⟨hP1, hD1⟩ := hB
  rw [ht] at hP1
  obtain ⟨hP2, hD2⟩ := va_join hP hD isC isR hC hR hn hdis hk1 (va_free hD hS hA isC hC) hP1 hD1
  exact kk u H1 locs1 hw hP2 hD2 hS1
theorem nw_i (hx : p.tables.exec = Jvm.exec) (hb : c.code = cc) (hX : sx D cy A s) (harr : (Cond.arrayClass .int).before args s = true) (hP : va_P D vwCl ws H) (hD : va_D A ws) (hS : va_S A s.heap H locs) (hA : ∀ q, s.heap.size ≤ q → A q) {n : Int32} {N' : Nat} (hn : ¬ n < 0) (hN : n.toNatClampNeg = N') (hbytes : N' * componentBytes .int ≤ 536870912) (hcells : cells + 1 ≤ R.cells) (hslots : slots + N' ≤ R.slots) (hdg : decode cc pc = .ok (.newarray .int, 2))
    (kk : ∀ (q : Nat) (H1 : Heap), va_P D vwCl (ws ++ [(q, .inl (cy 0, N', .inl (fun _ => 0)))]) H1 → va_D A (ws ++ [(q, .inl (cy 0, N', .inl (fun _ => 0)))]) → va_S A s.heap H1 locs → W p l e R s m args below meth c H1 locs (cells + 1) (slots + N') Q (F0 m (pc + 2) ls (.ref q :: rest))) : W p l e R s m args below meth c H locs cells slots Q (F0 m pc ls (.int n :: rest)) := by
  refine va_newa (atype := .int) (ty := .int) (a0 := (N', .inl (fun _ => 0))) hx hb harr rfl hX.1 hP hD hS hA (fun _ => rfl) hn hN hbytes hcells hslots hdg (fun q cA H1 hK1 hP1 hD1 hS1 => ?_)
  have h1 : s.vm.findClass ("[" ++ FieldType.int.toString) = some cA := (hK1.2 5 (cA, .int) rfl).2
  have h2 : s.vm.findClass ("[" ++ FieldType.int.toString) = some (cy 0) := (hX.1.2 0 (cy 0, .int) rfl).2
  have h3 : cA = cy 0 := Option.some.inj (h1.symm.trans h2)
  subst h3
  exact kk q H1 hP1 hD1 hS1
theorem nw_b (hx : p.tables.exec = Jvm.exec) (hb : c.code = cc) (hX : sx D cy A s) (harr : (Cond.arrayClass .byte).before args s = true) (hP : va_P D vwCl ws H) (hD : va_D A ws) (hS : va_S A s.heap H locs) (hA : ∀ q, s.heap.size ≤ q → A q) {n : Int32} {N' : Nat} (hn : ¬ n < 0) (hN : n.toNatClampNeg = N') (hbytes : N' * componentBytes .byte ≤ 536870912) (hcells : cells + 1 ≤ R.cells) (hslots : slots + N' ≤ R.slots) (hdg : decode cc pc = .ok (.newarray .byte, 2))
    (kk : ∀ (q : Nat) (H1 : Heap), va_P D vwCl (ws ++ [(q, .inl (cy 1, N', .inl (fun _ => 0)))]) H1 → va_D A (ws ++ [(q, .inl (cy 1, N', .inl (fun _ => 0)))]) → va_S A s.heap H1 locs → W p l e R s m args below meth c H1 locs (cells + 1) (slots + N') Q (F0 m (pc + 2) ls (.ref q :: rest))) : W p l e R s m args below meth c H locs cells slots Q (F0 m pc ls (.int n :: rest)) := by
  refine va_newa (atype := .byte) (ty := .byte) (a0 := (N', .inl (fun _ => 0))) hx hb harr rfl hX.1 hP hD hS hA (fun _ => rfl) hn hN hbytes hcells hslots hdg (fun q cA H1 hK1 hP1 hD1 hS1 => ?_)
  have h1 : s.vm.findClass ("[" ++ FieldType.byte.toString) = some cA := (hK1.2 5 (cA, .byte) rfl).2
  have h2 : s.vm.findClass ("[" ++ FieldType.byte.toString) = some (cy 1) := (hX.1.2 1 (cy 1, .byte) rfl).2
  have h3 : cA = cy 1 := Option.some.inj (h1.symm.trans h2)
  subst h3
  exact kk q H1 hP1 hD1 hS1
theorem ra_o {U : State} {C : String} {x y : ClassId} (h1 : va_RA U x (.object C)) (h2 : va_RA U y (.object C)) : x = y := by
  obtain ⟨_, _, _, _, _, e1⟩ := h1
  obtain ⟨_, _, _, _, _, e2⟩ := h2
  exact Option.some.inj (e1.symm.trans e2)
theorem nw_q (hx : p.tables.exec = Jvm.exec) (hb : c.code = cc) (hX : sx D cy A s) {own C : String} {index : Nat} (k : Nat) (hk : (TY cy)[k]? = some (cy k, .object C)) (hown : s.vm.findClass own = some m.cls) (hclink : (Cond.classLink own index C).before args s = true) (hover : va_AO C s) (hP : va_P D vwCl ws H) (hD : va_D A ws) (hS : va_S A s.heap H locs) (hA : ∀ q, s.heap.size ≤ q → A q) {n : Int32} {N' : Nat} (hn : ¬ n < 0) (hN : n.toNatClampNeg = N') (hbytes : N' * 4 ≤ 536870912) (hcells : cells + 1 ≤ R.cells) (hslots : slots + N' ≤ R.slots) (hdg : decode cc pc = .ok (.anewarray index, 3))
    (kk : ∀ (q : Nat) (H1 : Heap), va_P D vwCl (ws ++ [(q, .inl (cy k, N', .inr (.inr (.inr (.inr (fun _ => none))))))]) H1 → va_D A (ws ++ [(q, .inl (cy k, N', .inr (.inr (.inr (.inr (fun _ => none))))))]) → va_S A s.heap H1 locs → W p l e R s m args below meth c H1 locs (cells + 1) (slots + N') Q (F0 m (pc + 3) ls (.ref q :: rest))) : W p l e R s m args below meth c H locs cells slots Q (F0 m pc ls (.int n :: rest)) := by
  refine va_newq hx hb hown hclink hover hX.1 hP hD hS hA hn hN hbytes hcells hslots hdg (fun q cA H1 hK1 hP1 hD1 hS1 => ?_)
  have h3 : cA = cy k := ra_o (hK1.2 5 (cA, .object C) rfl).2 (hX.1.2 k (cy k, .object C) hk).2
  subst h3
  exact kk q H1 hP1 hD1 hS1
end KC
end
section
theorem dX0_init_0 : decode cX0_init 0 = .ok (.aload_n 0, 1) := by decide +kernel
theorem dX0_init_1 : decode cX0_init 1 = .ok (.invokespecial 3, 3) := by decide +kernel
theorem dX0_init_4 : decode cX0_init 4 = .ok (.aload_n 0, 1) := by decide +kernel
theorem dX0_init_5 : decode cX0_init 5 = .ok (.bipush 31, 2) := by decide +kernel
theorem dX0_init_7 : decode cX0_init 7 = .ok (.putfield 9, 3) := by decide +kernel
theorem dX0_init_10 : decode cX0_init 10 = .ok (.aload_n 0, 1) := by decide +kernel
theorem dX0_init_11 : decode cX0_init 11 = .ok (.bipush 6, 2) := by decide +kernel
theorem dX0_init_13 : decode cX0_init 13 = .ok (.newarray .int, 2) := by decide +kernel
theorem dX0_init_15 : decode cX0_init 15 = .ok (.putfield 15, 3) := by decide +kernel
theorem dX0_init_18 : decode cX0_init 18 = .ok (.return_, 1) := by decide +kernel
set_option maxRecDepth 20000 in
theorem ggX0_turnOver_X4_turnRow : GoodIn wsX0_turnOver wsX4_turnRow := goodIn_r _ [5, 6] (by decide +kernel) (by decide +kernel)
set_option maxRecDepth 20000 in
theorem gX0_turnOver_X4_turnRow_n22 : GoodIn wsX0_turnOver (wsX4_turnRow) := ggX0_turnOver_X4_turnRow
theorem dX0_turnOver_0 : decode cX0_turnOver 0 = .ok (.aload_n 0, 1) := by decide +kernel
theorem dX0_turnOver_1 : decode cX0_turnOver 1 = .ok (.getfield 15, 3) := by decide +kernel
theorem dX0_turnOver_4 : decode cX0_turnOver 4 = .ok (.iconst 0, 1) := by decide +kernel
theorem dX0_turnOver_5 : decode cX0_turnOver 5 = .ok (.aload_n 0, 1) := by decide +kernel
theorem dX0_turnOver_6 : decode cX0_turnOver 6 = .ok (.getfield 19, 3) := by decide +kernel
theorem dX0_turnOver_9 : decode cX0_turnOver 9 = .ok (.iload_n 1, 1) := by decide +kernel
theorem dX0_turnOver_10 : decode cX0_turnOver 10 = .ok (.invokestatic 22, 3) := by decide +kernel
theorem dX0_turnOver_13 : decode cX0_turnOver 13 = .ok (.return_, 1) := by decide +kernel
theorem dX0_copyFrom_0 : decode cX0_copyFrom 0 = .ok (.aload_n 0, 1) := by decide +kernel
theorem dX0_copyFrom_1 : decode cX0_copyFrom 1 = .ok (.aload_n 1, 1) := by decide +kernel
theorem dX0_copyFrom_2 : decode cX0_copyFrom 2 = .ok (.getfield 19, 3) := by decide +kernel
theorem dX0_copyFrom_5 : decode cX0_copyFrom 5 = .ok (.putfield 19, 3) := by decide +kernel
theorem dX0_copyFrom_8 : decode cX0_copyFrom 8 = .ok (.aload_n 0, 1) := by decide +kernel
theorem dX0_copyFrom_9 : decode cX0_copyFrom 9 = .ok (.aload_n 1, 1) := by decide +kernel
theorem dX0_copyFrom_10 : decode cX0_copyFrom 10 = .ok (.getfield 9, 3) := by decide +kernel
theorem dX0_copyFrom_13 : decode cX0_copyFrom 13 = .ok (.putfield 9, 3) := by decide +kernel
theorem dX0_copyFrom_16 : decode cX0_copyFrom 16 = .ok (.aload_n 1, 1) := by decide +kernel
theorem dX0_copyFrom_17 : decode cX0_copyFrom 17 = .ok (.getfield 15, 3) := by decide +kernel
theorem dX0_copyFrom_20 : decode cX0_copyFrom 20 = .ok (.iconst 0, 1) := by decide +kernel
theorem dX0_copyFrom_21 : decode cX0_copyFrom 21 = .ok (.aload_n 0, 1) := by decide +kernel
theorem dX0_copyFrom_22 : decode cX0_copyFrom 22 = .ok (.getfield 15, 3) := by decide +kernel
theorem dX0_copyFrom_25 : decode cX0_copyFrom 25 = .ok (.iconst 0, 1) := by decide +kernel
theorem dX0_copyFrom_26 : decode cX0_copyFrom 26 = .ok (.bipush 6, 2) := by decide +kernel
theorem dX0_copyFrom_28 : decode cX0_copyFrom 28 = .ok (.invokestatic 26, 3) := by decide +kernel
theorem dX0_copyFrom_31 : decode cX0_copyFrom 31 = .ok (.return_, 1) := by decide +kernel
set_option maxRecDepth 20000 in
theorem ggX2_init_X0_init : GoodIn wsX2_init wsX0_init := goodIn_r _ [9, 10, 2, 3, 11, 12, 13, 14, 15, 16] (by decide +kernel) (by decide +kernel)
set_option maxRecDepth 20000 in
theorem gX2_init_X0_init_n11 : GoodIn wsX2_init (wsX0_init) := ggX2_init_X0_init
theorem dX2_init_0 : decode cX2_init 0 = .ok (.aload_n 0, 1) := by decide +kernel
theorem dX2_init_1 : decode cX2_init 1 = .ok (.invokespecial 3, 3) := by decide +kernel
theorem dX2_init_4 : decode cX2_init 4 = .ok (.aload_n 0, 1) := by decide +kernel
theorem dX2_init_5 : decode cX2_init 5 = .ok (.iconst 3, 1) := by decide +kernel
theorem dX2_init_6 : decode cX2_init 6 = .ok (.anewarray 9, 3) := by decide +kernel
theorem dX2_init_9 : decode cX2_init 9 = .ok (.dup, 1) := by decide +kernel
theorem dX2_init_10 : decode cX2_init 10 = .ok (.iconst 0, 1) := by decide +kernel
theorem dX2_init_11 : decode cX2_init 11 = .ok (.new 9, 3) := by decide +kernel
theorem dX2_init_14 : decode cX2_init 14 = .ok (.dup, 1) := by decide +kernel
theorem dX2_init_15 : decode cX2_init 15 = .ok (.invokespecial 11, 3) := by decide +kernel
theorem dX2_init_18 : decode cX2_init 18 = .ok (.aastore, 1) := by decide +kernel
theorem dX2_init_19 : decode cX2_init 19 = .ok (.dup, 1) := by decide +kernel
theorem dX2_init_20 : decode cX2_init 20 = .ok (.iconst 1, 1) := by decide +kernel
theorem dX2_init_21 : decode cX2_init 21 = .ok (.new 9, 3) := by decide +kernel
theorem dX2_init_24 : decode cX2_init 24 = .ok (.dup, 1) := by decide +kernel
theorem dX2_init_25 : decode cX2_init 25 = .ok (.invokespecial 11, 3) := by decide +kernel
theorem dX2_init_28 : decode cX2_init 28 = .ok (.aastore, 1) := by decide +kernel
theorem dX2_init_29 : decode cX2_init 29 = .ok (.dup, 1) := by decide +kernel
theorem dX2_init_30 : decode cX2_init 30 = .ok (.iconst 2, 1) := by decide +kernel
theorem dX2_init_31 : decode cX2_init 31 = .ok (.new 9, 3) := by decide +kernel
theorem dX2_init_34 : decode cX2_init 34 = .ok (.dup, 1) := by decide +kernel
theorem dX2_init_35 : decode cX2_init 35 = .ok (.invokespecial 11, 3) := by decide +kernel
theorem dX2_init_38 : decode cX2_init 38 = .ok (.aastore, 1) := by decide +kernel
theorem dX2_init_39 : decode cX2_init 39 = .ok (.putfield 12, 3) := by decide +kernel
theorem dX2_init_42 : decode cX2_init 42 = .ok (.return_, 1) := by decide +kernel
theorem dX2_has_0 : decode cX2_has 0 = .ok (.iload_n 1, 1) := by decide +kernel
theorem dX2_has_1 : decode cX2_has 1 = .ok (.ifCond .lt 20, 3) := by decide +kernel
theorem dX2_has_4 : decode cX2_has 4 = .ok (.iload_n 1, 1) := by decide +kernel
theorem dX2_has_5 : decode cX2_has 5 = .ok (.aload_n 0, 1) := by decide +kernel
theorem dX2_has_6 : decode cX2_has 6 = .ok (.getfield 18, 3) := by decide +kernel
theorem dX2_has_9 : decode cX2_has 9 = .ok (.if_icmp .ge 12, 3) := by decide +kernel
theorem dX2_has_12 : decode cX2_has 12 = .ok (.iload_n 1, 1) := by decide +kernel
theorem dX2_has_13 : decode cX2_has 13 = .ok (.iconst 3, 1) := by decide +kernel
theorem dX2_has_14 : decode cX2_has 14 = .ok (.if_icmp .ge 7, 3) := by decide +kernel
theorem dX2_has_17 : decode cX2_has 17 = .ok (.iconst 1, 1) := by decide +kernel
theorem dX2_has_18 : decode cX2_has 18 = .ok (.goto 4, 3) := by decide +kernel
theorem dX2_has_21 : decode cX2_has 21 = .ok (.iconst 0, 1) := by decide +kernel
theorem dX2_has_22 : decode cX2_has 22 = .ok (.ireturn, 1) := by decide +kernel
set_option maxRecDepth 20000 in
theorem ggX2_copyFrom_X0_copyFrom : GoodIn wsX2_copyFrom wsX0_copyFrom := goodIn_r _ [9, 10, 11, 12, 13, 14, 15, 16, 21, 22, 23] (by decide +kernel) (by decide +kernel)
set_option maxRecDepth 20000 in
theorem gX2_copyFrom_X0_copyFrom : GoodIn wsX2_copyFrom (wsV RX2 28 RX0 yX0_copyFrom wsX0_copyFrom) := goodIn_app (goodIn_of _ (by decide +kernel)) ggX2_copyFrom_X0_copyFrom
theorem dX2_copyFrom_0 : decode cX2_copyFrom 0 = .ok (.aload_n 0, 1) := by decide +kernel
theorem dX2_copyFrom_1 : decode cX2_copyFrom 1 = .ok (.aload_n 1, 1) := by decide +kernel
theorem dX2_copyFrom_2 : decode cX2_copyFrom 2 = .ok (.getfield 18, 3) := by decide +kernel
theorem dX2_copyFrom_5 : decode cX2_copyFrom 5 = .ok (.putfield 18, 3) := by decide +kernel
theorem dX2_copyFrom_8 : decode cX2_copyFrom 8 = .ok (.aload_n 0, 1) := by decide +kernel
theorem dX2_copyFrom_9 : decode cX2_copyFrom 9 = .ok (.aload_n 1, 1) := by decide +kernel
theorem dX2_copyFrom_10 : decode cX2_copyFrom 10 = .ok (.getfield 22, 3) := by decide +kernel
theorem dX2_copyFrom_13 : decode cX2_copyFrom 13 = .ok (.putfield 22, 3) := by decide +kernel
theorem dX2_copyFrom_16 : decode cX2_copyFrom 16 = .ok (.aload_n 0, 1) := by decide +kernel
theorem dX2_copyFrom_17 : decode cX2_copyFrom 17 = .ok (.aload_n 1, 1) := by decide +kernel
theorem dX2_copyFrom_18 : decode cX2_copyFrom 18 = .ok (.getfield 25, 3) := by decide +kernel
theorem dX2_copyFrom_21 : decode cX2_copyFrom 21 = .ok (.putfield 25, 3) := by decide +kernel
theorem dX2_copyFrom_24 : decode cX2_copyFrom 24 = .ok (.iconst 0, 1) := by decide +kernel
theorem dX2_copyFrom_25 : decode cX2_copyFrom 25 = .ok (.istore_n 2, 1) := by decide +kernel
theorem dX2_copyFrom_26 : decode cX2_copyFrom 26 = .ok (.iload_n 2, 1) := by decide +kernel
theorem dX2_copyFrom_27 : decode cX2_copyFrom 27 = .ok (.iconst 3, 1) := by decide +kernel
theorem dX2_copyFrom_28 : decode cX2_copyFrom 28 = .ok (.if_icmp .ge 24, 3) := by decide +kernel
theorem dX2_copyFrom_31 : decode cX2_copyFrom 31 = .ok (.aload_n 0, 1) := by decide +kernel
theorem dX2_copyFrom_32 : decode cX2_copyFrom 32 = .ok (.getfield 12, 3) := by decide +kernel
theorem dX2_copyFrom_35 : decode cX2_copyFrom 35 = .ok (.iload_n 2, 1) := by decide +kernel
theorem dX2_copyFrom_36 : decode cX2_copyFrom 36 = .ok (.aaload, 1) := by decide +kernel
theorem dX2_copyFrom_37 : decode cX2_copyFrom 37 = .ok (.aload_n 1, 1) := by decide +kernel
theorem dX2_copyFrom_38 : decode cX2_copyFrom 38 = .ok (.getfield 12, 3) := by decide +kernel
theorem dX2_copyFrom_41 : decode cX2_copyFrom 41 = .ok (.iload_n 2, 1) := by decide +kernel
theorem dX2_copyFrom_42 : decode cX2_copyFrom 42 = .ok (.aaload, 1) := by decide +kernel
theorem dX2_copyFrom_43 : decode cX2_copyFrom 43 = .ok (.invokevirtual 28, 3) := by decide +kernel
theorem dX2_copyFrom_46 : decode cX2_copyFrom 46 = .ok (.iinc 2 1, 3) := by decide +kernel
theorem dX2_copyFrom_49 : decode cX2_copyFrom 49 = .ok (.goto (-23), 3) := by decide +kernel
theorem dX2_copyFrom_52 : decode cX2_copyFrom 52 = .ok (.return_, 1) := by decide +kernel
theorem dX2_forgetAll_0 : decode cX2_forgetAll 0 = .ok (.aload_n 0, 1) := by decide +kernel
theorem dX2_forgetAll_1 : decode cX2_forgetAll 1 = .ok (.iconst 0, 1) := by decide +kernel
theorem dX2_forgetAll_2 : decode cX2_forgetAll 2 = .ok (.putfield 25, 3) := by decide +kernel
theorem dX2_forgetAll_5 : decode cX2_forgetAll 5 = .ok (.iconst 0, 1) := by decide +kernel
theorem dX2_forgetAll_6 : decode cX2_forgetAll 6 = .ok (.istore_n 1, 1) := by decide +kernel
theorem dX2_forgetAll_7 : decode cX2_forgetAll 7 = .ok (.iload_n 1, 1) := by decide +kernel
theorem dX2_forgetAll_8 : decode cX2_forgetAll 8 = .ok (.iconst 3, 1) := by decide +kernel
theorem dX2_forgetAll_9 : decode cX2_forgetAll 9 = .ok (.if_icmp .ge 20, 3) := by decide +kernel
theorem dX2_forgetAll_12 : decode cX2_forgetAll 12 = .ok (.aload_n 0, 1) := by decide +kernel
theorem dX2_forgetAll_13 : decode cX2_forgetAll 13 = .ok (.getfield 12, 3) := by decide +kernel
theorem dX2_forgetAll_16 : decode cX2_forgetAll 16 = .ok (.iload_n 1, 1) := by decide +kernel
theorem dX2_forgetAll_17 : decode cX2_forgetAll 17 = .ok (.aaload, 1) := by decide +kernel
theorem dX2_forgetAll_18 : decode cX2_forgetAll 18 = .ok (.bipush 31, 2) := by decide +kernel
theorem dX2_forgetAll_20 : decode cX2_forgetAll 20 = .ok (.putfield 32, 3) := by decide +kernel
theorem dX2_forgetAll_23 : decode cX2_forgetAll 23 = .ok (.iinc 1 1, 3) := by decide +kernel
theorem dX2_forgetAll_26 : decode cX2_forgetAll 26 = .ok (.goto (-19), 3) := by decide +kernel
theorem dX2_forgetAll_29 : decode cX2_forgetAll 29 = .ok (.return_, 1) := by decide +kernel
theorem dX2_clashesOn_0 : decode cX2_clashesOn 0 = .ok (.iconst 2, 1) := by decide +kernel
theorem dX2_clashesOn_1 : decode cX2_clashesOn 1 = .ok (.iload_n 1, 1) := by decide +kernel
theorem dX2_clashesOn_2 : decode cX2_clashesOn 2 = .ok (.iadd, 1) := by decide +kernel
theorem dX2_clashesOn_3 : decode cX2_clashesOn 3 = .ok (.istore_n 2, 1) := by decide +kernel
theorem dX2_clashesOn_4 : decode cX2_clashesOn 4 = .ok (.iconst 0, 1) := by decide +kernel
theorem dX2_clashesOn_5 : decode cX2_clashesOn 5 = .ok (.istore_n 3, 1) := by decide +kernel
theorem dX2_clashesOn_6 : decode cX2_clashesOn 6 = .ok (.iconst 1, 1) := by decide +kernel
theorem dX2_clashesOn_7 : decode cX2_clashesOn 7 = .ok (.istore 4, 2) := by decide +kernel
theorem dX2_clashesOn_9 : decode cX2_clashesOn 9 = .ok (.iload 4, 2) := by decide +kernel
theorem dX2_clashesOn_11 : decode cX2_clashesOn 11 = .ok (.aload_n 0, 1) := by decide +kernel
theorem dX2_clashesOn_12 : decode cX2_clashesOn 12 = .ok (.getfield 18, 3) := by decide +kernel
theorem dX2_clashesOn_15 : decode cX2_clashesOn 15 = .ok (.if_icmp .ge 61, 3) := by decide +kernel
theorem dX2_clashesOn_18 : decode cX2_clashesOn 18 = .ok (.iload 4, 2) := by decide +kernel
theorem dX2_clashesOn_20 : decode cX2_clashesOn 20 = .ok (.iconst 3, 1) := by decide +kernel
theorem dX2_clashesOn_21 : decode cX2_clashesOn 21 = .ok (.if_icmp .ge 55, 3) := by decide +kernel
theorem dX2_clashesOn_24 : decode cX2_clashesOn 24 = .ok (.iconst 0, 1) := by decide +kernel
theorem dX2_clashesOn_25 : decode cX2_clashesOn 25 = .ok (.istore 5, 2) := by decide +kernel
theorem dX2_clashesOn_27 : decode cX2_clashesOn 27 = .ok (.iload 5, 2) := by decide +kernel
theorem dX2_clashesOn_29 : decode cX2_clashesOn 29 = .ok (.iload 4, 2) := by decide +kernel
theorem dX2_clashesOn_31 : decode cX2_clashesOn 31 = .ok (.if_icmp .ge 39, 3) := by decide +kernel
theorem dX2_clashesOn_34 : decode cX2_clashesOn 34 = .ok (.aload_n 0, 1) := by decide +kernel
theorem dX2_clashesOn_35 : decode cX2_clashesOn 35 = .ok (.getfield 12, 3) := by decide +kernel
theorem dX2_clashesOn_38 : decode cX2_clashesOn 38 = .ok (.iload 4, 2) := by decide +kernel
theorem dX2_clashesOn_40 : decode cX2_clashesOn 40 = .ok (.aaload, 1) := by decide +kernel
theorem dX2_clashesOn_41 : decode cX2_clashesOn 41 = .ok (.getfield 35, 3) := by decide +kernel
theorem dX2_clashesOn_44 : decode cX2_clashesOn 44 = .ok (.iload_n 2, 1) := by decide +kernel
theorem dX2_clashesOn_45 : decode cX2_clashesOn 45 = .ok (.iaload, 1) := by decide +kernel
theorem dX2_clashesOn_46 : decode cX2_clashesOn 46 = .ok (.aload_n 0, 1) := by decide +kernel
theorem dX2_clashesOn_47 : decode cX2_clashesOn 47 = .ok (.getfield 12, 3) := by decide +kernel
theorem dX2_clashesOn_50 : decode cX2_clashesOn 50 = .ok (.iload 5, 2) := by decide +kernel
theorem dX2_clashesOn_52 : decode cX2_clashesOn 52 = .ok (.aaload, 1) := by decide +kernel
theorem dX2_clashesOn_53 : decode cX2_clashesOn 53 = .ok (.getfield 35, 3) := by decide +kernel
theorem dX2_clashesOn_56 : decode cX2_clashesOn 56 = .ok (.iload_n 2, 1) := by decide +kernel
theorem dX2_clashesOn_57 : decode cX2_clashesOn 57 = .ok (.iaload, 1) := by decide +kernel
theorem dX2_clashesOn_58 : decode cX2_clashesOn 58 = .ok (.if_icmp .ne 6, 3) := by decide +kernel
theorem dX2_clashesOn_61 : decode cX2_clashesOn 61 = .ok (.iinc 3 1, 3) := by decide +kernel
theorem dX2_clashesOn_64 : decode cX2_clashesOn 64 = .ok (.iinc 5 1, 3) := by decide +kernel
theorem dX2_clashesOn_67 : decode cX2_clashesOn 67 = .ok (.goto (-40), 3) := by decide +kernel
theorem dX2_clashesOn_70 : decode cX2_clashesOn 70 = .ok (.iinc 4 1, 3) := by decide +kernel
theorem dX2_clashesOn_73 : decode cX2_clashesOn 73 = .ok (.goto (-64), 3) := by decide +kernel
theorem dX2_clashesOn_76 : decode cX2_clashesOn 76 = .ok (.iload_n 3, 1) := by decide +kernel
theorem dX2_clashesOn_77 : decode cX2_clashesOn 77 = .ok (.ireturn, 1) := by decide +kernel
set_option maxRecDepth 20000 in
theorem ggX2_clashes_X2_clashesOn : GoodIn wsX2_clashes wsX2_clashesOn := goodIn_r _ [5, 6, 7, 8, 9, 10, 11, 12, 13, 14, 15] (by decide +kernel) (by decide +kernel)
set_option maxRecDepth 20000 in
theorem gX2_clashes_X2_clashesOn : GoodIn wsX2_clashes (wsV RX2 39 RX2 yX2_clashesOn wsX2_clashesOn) := goodIn_app (goodIn_of _ (by decide +kernel)) ggX2_clashes_X2_clashesOn
theorem dX2_clashes_0 : decode cX2_clashes 0 = .ok (.iconst 0, 1) := by decide +kernel
theorem dX2_clashes_1 : decode cX2_clashes 1 = .ok (.istore_n 1, 1) := by decide +kernel
theorem dX2_clashes_2 : decode cX2_clashes 2 = .ok (.iconst 0, 1) := by decide +kernel
theorem dX2_clashes_3 : decode cX2_clashes 3 = .ok (.istore_n 2, 1) := by decide +kernel
theorem dX2_clashes_4 : decode cX2_clashes 4 = .ok (.iload_n 2, 1) := by decide +kernel
theorem dX2_clashes_5 : decode cX2_clashes 5 = .ok (.iconst 4, 1) := by decide +kernel
theorem dX2_clashes_6 : decode cX2_clashes 6 = .ok (.if_icmp .ge 17, 3) := by decide +kernel
theorem dX2_clashes_9 : decode cX2_clashes 9 = .ok (.iload_n 1, 1) := by decide +kernel
theorem dX2_clashes_10 : decode cX2_clashes 10 = .ok (.aload_n 0, 1) := by decide +kernel
theorem dX2_clashes_11 : decode cX2_clashes 11 = .ok (.iload_n 2, 1) := by decide +kernel
theorem dX2_clashes_12 : decode cX2_clashes 12 = .ok (.invokevirtual 39, 3) := by decide +kernel
theorem dX2_clashes_15 : decode cX2_clashes 15 = .ok (.iadd, 1) := by decide +kernel
theorem dX2_clashes_16 : decode cX2_clashes 16 = .ok (.istore_n 1, 1) := by decide +kernel
theorem dX2_clashes_17 : decode cX2_clashes 17 = .ok (.iinc 2 1, 3) := by decide +kernel
theorem dX2_clashes_20 : decode cX2_clashes 20 = .ok (.goto (-16), 3) := by decide +kernel
theorem dX2_clashes_23 : decode cX2_clashes 23 = .ok (.iload_n 1, 1) := by decide +kernel
theorem dX2_clashes_24 : decode cX2_clashes 24 = .ok (.ireturn, 1) := by decide +kernel
set_option maxRecDepth 20000 in
theorem ggX2_goodWalls_X2_clashesOn : GoodIn wsX2_goodWalls wsX2_clashesOn := goodIn_r _ [6, 1, 7, 8, 9, 10, 11, 12, 13, 14, 15] (by decide +kernel) (by decide +kernel)
set_option maxRecDepth 20000 in
theorem gX2_goodWalls_X2_clashesOn : GoodIn wsX2_goodWalls (wsV RX2 39 RX2 yX2_clashesOn wsX2_clashesOn) := goodIn_app (goodIn_of _ (by decide +kernel)) ggX2_goodWalls_X2_clashesOn
theorem dX2_goodWalls_0 : decode cX2_goodWalls 0 = .ok (.iconst 0, 1) := by decide +kernel
theorem dX2_goodWalls_1 : decode cX2_goodWalls 1 = .ok (.istore_n 1, 1) := by decide +kernel
theorem dX2_goodWalls_2 : decode cX2_goodWalls 2 = .ok (.iconst 0, 1) := by decide +kernel
theorem dX2_goodWalls_3 : decode cX2_goodWalls 3 = .ok (.istore_n 2, 1) := by decide +kernel
theorem dX2_goodWalls_4 : decode cX2_goodWalls 4 = .ok (.iload_n 2, 1) := by decide +kernel
theorem dX2_goodWalls_5 : decode cX2_goodWalls 5 = .ok (.iconst 4, 1) := by decide +kernel
theorem dX2_goodWalls_6 : decode cX2_goodWalls 6 = .ok (.if_icmp .ge 27, 3) := by decide +kernel
theorem dX2_goodWalls_9 : decode cX2_goodWalls 9 = .ok (.aload_n 0, 1) := by decide +kernel
theorem dX2_goodWalls_10 : decode cX2_goodWalls 10 = .ok (.getfield 18, 3) := by decide +kernel
theorem dX2_goodWalls_13 : decode cX2_goodWalls 13 = .ok (.ifCond .le 20, 3) := by decide +kernel
theorem dX2_goodWalls_16 : decode cX2_goodWalls 16 = .ok (.aload_n 0, 1) := by decide +kernel
theorem dX2_goodWalls_17 : decode cX2_goodWalls 17 = .ok (.iload_n 2, 1) := by decide +kernel
theorem dX2_goodWalls_18 : decode cX2_goodWalls 18 = .ok (.invokevirtual 39, 3) := by decide +kernel
theorem dX2_goodWalls_21 : decode cX2_goodWalls 21 = .ok (.ifCond .ne 6, 3) := by decide +kernel
theorem dX2_goodWalls_24 : decode cX2_goodWalls 24 = .ok (.iinc 1 1, 3) := by decide +kernel
theorem dX2_goodWalls_27 : decode cX2_goodWalls 27 = .ok (.iinc 2 1, 3) := by decide +kernel
theorem dX2_goodWalls_30 : decode cX2_goodWalls 30 = .ok (.goto (-26), 3) := by decide +kernel
theorem dX2_goodWalls_33 : decode cX2_goodWalls 33 = .ok (.iload_n 1, 1) := by decide +kernel
theorem dX2_goodWalls_34 : decode cX2_goodWalls 34 = .ok (.ireturn, 1) := by decide +kernel
set_option maxRecDepth 20000 in
theorem ggX2_coloursUsed_J6_bitCount_0f7a4 : GoodIn wsX2_coloursUsed wsJ6_bitCount_0f7a4 := goodIn_r _ [7, 8, 9, 10] (by decide +kernel) (by decide +kernel)
set_option maxRecDepth 20000 in
theorem gX2_coloursUsed_J6_bitCount_0f7a4 : GoodIn wsX2_coloursUsed (va_wsS RX2 43 yJ6_bitCount_0f7a4 wsJ6_bitCount_0f7a4) := goodIn_app (goodIn_of _ (by decide +kernel)) ggX2_coloursUsed_J6_bitCount_0f7a4
theorem dX2_coloursUsed_0 : decode cX2_coloursUsed 0 = .ok (.iconst 0, 1) := by decide +kernel
theorem dX2_coloursUsed_1 : decode cX2_coloursUsed 1 = .ok (.istore_n 1, 1) := by decide +kernel
theorem dX2_coloursUsed_2 : decode cX2_coloursUsed 2 = .ok (.iconst 0, 1) := by decide +kernel
theorem dX2_coloursUsed_3 : decode cX2_coloursUsed 3 = .ok (.istore_n 2, 1) := by decide +kernel
theorem dX2_coloursUsed_4 : decode cX2_coloursUsed 4 = .ok (.iload_n 2, 1) := by decide +kernel
theorem dX2_coloursUsed_5 : decode cX2_coloursUsed 5 = .ok (.aload_n 0, 1) := by decide +kernel
theorem dX2_coloursUsed_6 : decode cX2_coloursUsed 6 = .ok (.getfield 18, 3) := by decide +kernel
theorem dX2_coloursUsed_9 : decode cX2_coloursUsed 9 = .ok (.if_icmp .ge 44, 3) := by decide +kernel
theorem dX2_coloursUsed_12 : decode cX2_coloursUsed 12 = .ok (.iload_n 2, 1) := by decide +kernel
theorem dX2_coloursUsed_13 : decode cX2_coloursUsed 13 = .ok (.iconst 3, 1) := by decide +kernel
theorem dX2_coloursUsed_14 : decode cX2_coloursUsed 14 = .ok (.if_icmp .ge 39, 3) := by decide +kernel
theorem dX2_coloursUsed_17 : decode cX2_coloursUsed 17 = .ok (.iconst 0, 1) := by decide +kernel
theorem dX2_coloursUsed_18 : decode cX2_coloursUsed 18 = .ok (.istore_n 3, 1) := by decide +kernel
theorem dX2_coloursUsed_19 : decode cX2_coloursUsed 19 = .ok (.iload_n 3, 1) := by decide +kernel
theorem dX2_coloursUsed_20 : decode cX2_coloursUsed 20 = .ok (.bipush 6, 2) := by decide +kernel
theorem dX2_coloursUsed_22 : decode cX2_coloursUsed 22 = .ok (.if_icmp .ge 25, 3) := by decide +kernel
theorem dX2_coloursUsed_25 : decode cX2_coloursUsed 25 = .ok (.iload_n 1, 1) := by decide +kernel
theorem dX2_coloursUsed_26 : decode cX2_coloursUsed 26 = .ok (.iconst 1, 1) := by decide +kernel
theorem dX2_coloursUsed_27 : decode cX2_coloursUsed 27 = .ok (.aload_n 0, 1) := by decide +kernel
theorem dX2_coloursUsed_28 : decode cX2_coloursUsed 28 = .ok (.getfield 12, 3) := by decide +kernel
theorem dX2_coloursUsed_31 : decode cX2_coloursUsed 31 = .ok (.iload_n 2, 1) := by decide +kernel
theorem dX2_coloursUsed_32 : decode cX2_coloursUsed 32 = .ok (.aaload, 1) := by decide +kernel
theorem dX2_coloursUsed_33 : decode cX2_coloursUsed 33 = .ok (.getfield 35, 3) := by decide +kernel
theorem dX2_coloursUsed_36 : decode cX2_coloursUsed 36 = .ok (.iload_n 3, 1) := by decide +kernel
theorem dX2_coloursUsed_37 : decode cX2_coloursUsed 37 = .ok (.iaload, 1) := by decide +kernel
theorem dX2_coloursUsed_38 : decode cX2_coloursUsed 38 = .ok (.ishl, 1) := by decide +kernel
theorem dX2_coloursUsed_39 : decode cX2_coloursUsed 39 = .ok (.ior, 1) := by decide +kernel
theorem dX2_coloursUsed_40 : decode cX2_coloursUsed 40 = .ok (.istore_n 1, 1) := by decide +kernel
theorem dX2_coloursUsed_41 : decode cX2_coloursUsed 41 = .ok (.iinc 3 1, 3) := by decide +kernel
theorem dX2_coloursUsed_44 : decode cX2_coloursUsed 44 = .ok (.goto (-25), 3) := by decide +kernel
theorem dX2_coloursUsed_47 : decode cX2_coloursUsed 47 = .ok (.iinc 2 1, 3) := by decide +kernel
theorem dX2_coloursUsed_50 : decode cX2_coloursUsed 50 = .ok (.goto (-46), 3) := by decide +kernel
theorem dX2_coloursUsed_53 : decode cX2_coloursUsed 53 = .ok (.iload_n 1, 1) := by decide +kernel
theorem dX2_coloursUsed_54 : decode cX2_coloursUsed 54 = .ok (.invokestatic 43, 3) := by decide +kernel
theorem dX2_coloursUsed_57 : decode cX2_coloursUsed 57 = .ok (.ireturn, 1) := by decide +kernel
set_option maxRecDepth 20000 in
theorem ggX3_init_X4_canTurn : GoodIn wsX3_init wsX4_canTurn := goodIn_r _ [11, 12] (by decide +kernel) (by decide +kernel)
set_option maxRecDepth 20000 in
theorem gX3_init_X4_canTurn_n25 : GoodIn wsX3_init (wsX4_canTurn) := ggX3_init_X4_canTurn
set_option maxRecDepth 20000 in
theorem ggX3_init_X3_reach : GoodIn wsX3_init wsX3_reach := goodIn_r _ [17, 6, 4, 18, 19, 20, 21, 7, 8, 22, 10, 23, 24, 25, 26, 27, 16, 28, 29, 30, 31, 32, 33, 34, 35, 36] (by decide +kernel) (by decide +kernel)
set_option maxRecDepth 20000 in
theorem gX3_init_X3_reach : GoodIn wsX3_init (wsV RX3 29 RX3 yX3_reach wsX3_reach) := goodIn_app (goodIn_of _ (by decide +kernel)) ggX3_init_X3_reach
theorem dX3_init_0 : decode cX3_init 0 = .ok (.aload_n 0, 1) := by decide +kernel
theorem dX3_init_1 : decode cX3_init 1 = .ok (.invokespecial 3, 3) := by decide +kernel
theorem dX3_init_4 : decode cX3_init 4 = .ok (.aload_n 0, 1) := by decide +kernel
theorem dX3_init_5 : decode cX3_init 5 = .ok (.iconst 1, 1) := by decide +kernel
theorem dX3_init_6 : decode cX3_init 6 = .ok (.putfield 9, 3) := by decide +kernel
theorem dX3_init_9 : decode cX3_init 9 = .ok (.aload_n 0, 1) := by decide +kernel
theorem dX3_init_10 : decode cX3_init 10 = .ok (.sipush 150, 3) := by decide +kernel
theorem dX3_init_13 : decode cX3_init 13 = .ok (.newarray .int, 2) := by decide +kernel
theorem dX3_init_15 : decode cX3_init 15 = .ok (.putfield 15, 3) := by decide +kernel
theorem dX3_init_18 : decode cX3_init 18 = .ok (.aload_n 0, 1) := by decide +kernel
theorem dX3_init_19 : decode cX3_init 19 = .ok (.bipush 24, 2) := by decide +kernel
theorem dX3_init_21 : decode cX3_init 21 = .ok (.newarray .int, 2) := by decide +kernel
theorem dX3_init_23 : decode cX3_init 23 = .ok (.putfield 19, 3) := by decide +kernel
theorem dX3_init_26 : decode cX3_init 26 = .ok (.aload_n 0, 1) := by decide +kernel
theorem dX3_init_27 : decode cX3_init 27 = .ok (.bipush 24, 2) := by decide +kernel
theorem dX3_init_29 : decode cX3_init 29 = .ok (.newarray .int, 2) := by decide +kernel
theorem dX3_init_31 : decode cX3_init 31 = .ok (.putfield 22, 3) := by decide +kernel
theorem dX3_init_34 : decode cX3_init 34 = .ok (.iconst 0, 1) := by decide +kernel
theorem dX3_init_35 : decode cX3_init 35 = .ok (.istore_n 2, 1) := by decide +kernel
theorem dX3_init_36 : decode cX3_init 36 = .ok (.iload_n 2, 1) := by decide +kernel
theorem dX3_init_37 : decode cX3_init 37 = .ok (.bipush 6, 2) := by decide +kernel
theorem dX3_init_39 : decode cX3_init 39 = .ok (.if_icmp .ge 16, 3) := by decide +kernel
theorem dX3_init_42 : decode cX3_init 42 = .ok (.aload_n 0, 1) := by decide +kernel
theorem dX3_init_43 : decode cX3_init 43 = .ok (.getfield 15, 3) := by decide +kernel
theorem dX3_init_46 : decode cX3_init 46 = .ok (.iload_n 2, 1) := by decide +kernel
theorem dX3_init_47 : decode cX3_init 47 = .ok (.iload_n 2, 1) := by decide +kernel
theorem dX3_init_48 : decode cX3_init 48 = .ok (.iastore, 1) := by decide +kernel
theorem dX3_init_49 : decode cX3_init 49 = .ok (.iinc 2 1, 3) := by decide +kernel
theorem dX3_init_52 : decode cX3_init 52 = .ok (.goto (-16), 3) := by decide +kernel
theorem dX3_init_55 : decode cX3_init 55 = .ok (.iconst 0, 1) := by decide +kernel
theorem dX3_init_56 : decode cX3_init 56 = .ok (.istore_n 2, 1) := by decide +kernel
theorem dX3_init_57 : decode cX3_init 57 = .ok (.iload_n 2, 1) := by decide +kernel
theorem dX3_init_58 : decode cX3_init 58 = .ok (.aload_n 0, 1) := by decide +kernel
theorem dX3_init_59 : decode cX3_init 59 = .ok (.getfield 9, 3) := by decide +kernel
theorem dX3_init_62 : decode cX3_init 62 = .ok (.if_icmp .ge 43, 3) := by decide +kernel
theorem dX3_init_65 : decode cX3_init 65 = .ok (.iload_n 2, 1) := by decide +kernel
theorem dX3_init_66 : decode cX3_init 66 = .ok (.bipush 24, 2) := by decide +kernel
theorem dX3_init_68 : decode cX3_init 68 = .ok (.if_icmp .ge 37, 3) := by decide +kernel
theorem dX3_init_71 : decode cX3_init 71 = .ok (.iconst 0, 1) := by decide +kernel
theorem dX3_init_72 : decode cX3_init 72 = .ok (.istore_n 3, 1) := by decide +kernel
theorem dX3_init_73 : decode cX3_init 73 = .ok (.iload_n 3, 1) := by decide +kernel
theorem dX3_init_74 : decode cX3_init 74 = .ok (.iconst 4, 1) := by decide +kernel
theorem dX3_init_75 : decode cX3_init 75 = .ok (.if_icmp .ge 24, 3) := by decide +kernel
theorem dX3_init_78 : decode cX3_init 78 = .ok (.iload_n 1, 1) := by decide +kernel
theorem dX3_init_79 : decode cX3_init 79 = .ok (.iload_n 3, 1) := by decide +kernel
theorem dX3_init_80 : decode cX3_init 80 = .ok (.invokestatic 25, 3) := by decide +kernel
theorem dX3_init_83 : decode cX3_init 83 = .ok (.ifCond .eq 10, 3) := by decide +kernel
theorem dX3_init_86 : decode cX3_init 86 = .ok (.aload_n 0, 1) := by decide +kernel
theorem dX3_init_87 : decode cX3_init 87 = .ok (.iload_n 2, 1) := by decide +kernel
theorem dX3_init_88 : decode cX3_init 88 = .ok (.iload_n 1, 1) := by decide +kernel
theorem dX3_init_89 : decode cX3_init 89 = .ok (.iload_n 3, 1) := by decide +kernel
theorem dX3_init_90 : decode cX3_init 90 = .ok (.invokevirtual 29, 3) := by decide +kernel
theorem dX3_init_93 : decode cX3_init 93 = .ok (.iinc 3 1, 3) := by decide +kernel
theorem dX3_init_96 : decode cX3_init 96 = .ok (.goto (-23), 3) := by decide +kernel
theorem dX3_init_99 : decode cX3_init 99 = .ok (.iinc 2 1, 3) := by decide +kernel
theorem dX3_init_102 : decode cX3_init 102 = .ok (.goto (-45), 3) := by decide +kernel
theorem dX3_init_105 : decode cX3_init 105 = .ok (.return_, 1) := by decide +kernel
set_option maxRecDepth 20000 in
theorem ggX3_reach_X4_turnRow : GoodIn wsX3_reach wsX4_turnRow := goodIn_r _ [11, 12] (by decide +kernel) (by decide +kernel)
set_option maxRecDepth 20000 in
theorem gX3_reach_X4_turnRow_n39 : GoodIn wsX3_reach (wsX4_turnRow) := ggX3_reach_X4_turnRow
set_option maxRecDepth 20000 in
theorem ggX3_reach_X3_find : GoodIn wsX3_reach wsX3_find := goodIn_r _ [17, 2, 18, 19, 20, 16, 21, 1, 22, 23, 24, 25] (by decide +kernel) (by decide +kernel)
set_option maxRecDepth 20000 in
theorem gX3_reach_X3_find : GoodIn wsX3_reach (wsV RX3 43 RX3 yX3_find wsX3_find) := goodIn_app (goodIn_of _ (by decide +kernel)) ggX3_reach_X3_find
theorem dX3_reach_0 : decode cX3_reach 0 = .ok (.aload_n 0, 1) := by decide +kernel
theorem dX3_reach_1 : decode cX3_reach 1 = .ok (.getfield 15, 3) := by decide +kernel
theorem dX3_reach_4 : decode cX3_reach 4 = .ok (.iload_n 1, 1) := by decide +kernel
theorem dX3_reach_5 : decode cX3_reach 5 = .ok (.bipush 6, 2) := by decide +kernel
theorem dX3_reach_7 : decode cX3_reach 7 = .ok (.imul, 1) := by decide +kernel
theorem dX3_reach_8 : decode cX3_reach 8 = .ok (.aload_n 0, 1) := by decide +kernel
theorem dX3_reach_9 : decode cX3_reach 9 = .ok (.getfield 15, 3) := by decide +kernel
theorem dX3_reach_12 : decode cX3_reach 12 = .ok (.aload_n 0, 1) := by decide +kernel
theorem dX3_reach_13 : decode cX3_reach 13 = .ok (.getfield 9, 3) := by decide +kernel
theorem dX3_reach_16 : decode cX3_reach 16 = .ok (.bipush 6, 2) := by decide +kernel
theorem dX3_reach_18 : decode cX3_reach 18 = .ok (.imul, 1) := by decide +kernel
theorem dX3_reach_19 : decode cX3_reach 19 = .ok (.bipush 6, 2) := by decide +kernel
theorem dX3_reach_21 : decode cX3_reach 21 = .ok (.invokestatic 33, 3) := by decide +kernel
theorem dX3_reach_24 : decode cX3_reach 24 = .ok (.aload_n 0, 1) := by decide +kernel
theorem dX3_reach_25 : decode cX3_reach 25 = .ok (.getfield 15, 3) := by decide +kernel
theorem dX3_reach_28 : decode cX3_reach 28 = .ok (.aload_n 0, 1) := by decide +kernel
theorem dX3_reach_29 : decode cX3_reach 29 = .ok (.getfield 9, 3) := by decide +kernel
theorem dX3_reach_32 : decode cX3_reach 32 = .ok (.bipush 6, 2) := by decide +kernel
theorem dX3_reach_34 : decode cX3_reach 34 = .ok (.imul, 1) := by decide +kernel
theorem dX3_reach_35 : decode cX3_reach 35 = .ok (.iload_n 2, 1) := by decide +kernel
theorem dX3_reach_36 : decode cX3_reach 36 = .ok (.iload_n 3, 1) := by decide +kernel
theorem dX3_reach_37 : decode cX3_reach 37 = .ok (.invokestatic 39, 3) := by decide +kernel
theorem dX3_reach_40 : decode cX3_reach 40 = .ok (.aload_n 0, 1) := by decide +kernel
theorem dX3_reach_41 : decode cX3_reach 41 = .ok (.invokevirtual 43, 3) := by decide +kernel
theorem dX3_reach_44 : decode cX3_reach 44 = .ok (.istore 4, 2) := by decide +kernel
theorem dX3_reach_46 : decode cX3_reach 46 = .ok (.iload 4, 2) := by decide +kernel
theorem dX3_reach_48 : decode cX3_reach 48 = .ok (.aload_n 0, 1) := by decide +kernel
theorem dX3_reach_49 : decode cX3_reach 49 = .ok (.getfield 9, 3) := by decide +kernel
theorem dX3_reach_52 : decode cX3_reach 52 = .ok (.if_icmp .ne 37, 3) := by decide +kernel
theorem dX3_reach_55 : decode cX3_reach 55 = .ok (.aload_n 0, 1) := by decide +kernel
theorem dX3_reach_56 : decode cX3_reach 56 = .ok (.getfield 9, 3) := by decide +kernel
theorem dX3_reach_59 : decode cX3_reach 59 = .ok (.bipush 24, 2) := by decide +kernel
theorem dX3_reach_61 : decode cX3_reach 61 = .ok (.if_icmp .ge 28, 3) := by decide +kernel
theorem dX3_reach_64 : decode cX3_reach 64 = .ok (.aload_n 0, 1) := by decide +kernel
theorem dX3_reach_65 : decode cX3_reach 65 = .ok (.getfield 19, 3) := by decide +kernel
theorem dX3_reach_68 : decode cX3_reach 68 = .ok (.iload 4, 2) := by decide +kernel
theorem dX3_reach_70 : decode cX3_reach 70 = .ok (.aload_n 0, 1) := by decide +kernel
theorem dX3_reach_71 : decode cX3_reach 71 = .ok (.getfield 19, 3) := by decide +kernel
theorem dX3_reach_74 : decode cX3_reach 74 = .ok (.iload_n 1, 1) := by decide +kernel
theorem dX3_reach_75 : decode cX3_reach 75 = .ok (.iaload, 1) := by decide +kernel
theorem dX3_reach_76 : decode cX3_reach 76 = .ok (.iconst 1, 1) := by decide +kernel
theorem dX3_reach_77 : decode cX3_reach 77 = .ok (.iadd, 1) := by decide +kernel
theorem dX3_reach_78 : decode cX3_reach 78 = .ok (.iastore, 1) := by decide +kernel
theorem dX3_reach_79 : decode cX3_reach 79 = .ok (.aload_n 0, 1) := by decide +kernel
theorem dX3_reach_80 : decode cX3_reach 80 = .ok (.dup, 1) := by decide +kernel
theorem dX3_reach_81 : decode cX3_reach 81 = .ok (.getfield 9, 3) := by decide +kernel
theorem dX3_reach_84 : decode cX3_reach 84 = .ok (.iconst 1, 1) := by decide +kernel
theorem dX3_reach_85 : decode cX3_reach 85 = .ok (.iadd, 1) := by decide +kernel
theorem dX3_reach_86 : decode cX3_reach 86 = .ok (.putfield 9, 3) := by decide +kernel
theorem dX3_reach_89 : decode cX3_reach 89 = .ok (.iload 4, 2) := by decide +kernel
theorem dX3_reach_91 : decode cX3_reach 91 = .ok (.aload_n 0, 1) := by decide +kernel
theorem dX3_reach_92 : decode cX3_reach 92 = .ok (.getfield 9, 3) := by decide +kernel
theorem dX3_reach_95 : decode cX3_reach 95 = .ok (.if_icmp .ge 47, 3) := by decide +kernel
theorem dX3_reach_98 : decode cX3_reach 98 = .ok (.aload_n 0, 1) := by decide +kernel
theorem dX3_reach_99 : decode cX3_reach 99 = .ok (.getfield 19, 3) := by decide +kernel
theorem dX3_reach_102 : decode cX3_reach 102 = .ok (.iload 4, 2) := by decide +kernel
theorem dX3_reach_104 : decode cX3_reach 104 = .ok (.iaload, 1) := by decide +kernel
theorem dX3_reach_105 : decode cX3_reach 105 = .ok (.aload_n 0, 1) := by decide +kernel
theorem dX3_reach_106 : decode cX3_reach 106 = .ok (.getfield 19, 3) := by decide +kernel
theorem dX3_reach_109 : decode cX3_reach 109 = .ok (.iload_n 1, 1) := by decide +kernel
theorem dX3_reach_110 : decode cX3_reach 110 = .ok (.iaload, 1) := by decide +kernel
theorem dX3_reach_111 : decode cX3_reach 111 = .ok (.iconst 1, 1) := by decide +kernel
theorem dX3_reach_112 : decode cX3_reach 112 = .ok (.iadd, 1) := by decide +kernel
theorem dX3_reach_113 : decode cX3_reach 113 = .ok (.if_icmp .ne 29, 3) := by decide +kernel
theorem dX3_reach_116 : decode cX3_reach 116 = .ok (.aload_n 0, 1) := by decide +kernel
theorem dX3_reach_117 : decode cX3_reach 117 = .ok (.getfield 22, 3) := by decide +kernel
theorem dX3_reach_120 : decode cX3_reach 120 = .ok (.iload 4, 2) := by decide +kernel
theorem dX3_reach_122 : decode cX3_reach 122 = .ok (.dup2, 1) := by decide +kernel
theorem dX3_reach_123 : decode cX3_reach 123 = .ok (.iaload, 1) := by decide +kernel
theorem dX3_reach_124 : decode cX3_reach 124 = .ok (.iload_n 1, 1) := by decide +kernel
theorem dX3_reach_125 : decode cX3_reach 125 = .ok (.ifCond .ne 9, 3) := by decide +kernel
theorem dX3_reach_128 : decode cX3_reach 128 = .ok (.iconst 1, 1) := by decide +kernel
theorem dX3_reach_129 : decode cX3_reach 129 = .ok (.iload_n 3, 1) := by decide +kernel
theorem dX3_reach_130 : decode cX3_reach 130 = .ok (.ishl, 1) := by decide +kernel
theorem dX3_reach_131 : decode cX3_reach 131 = .ok (.goto 9, 3) := by decide +kernel
theorem dX3_reach_134 : decode cX3_reach 134 = .ok (.aload_n 0, 1) := by decide +kernel
theorem dX3_reach_135 : decode cX3_reach 135 = .ok (.getfield 22, 3) := by decide +kernel
theorem dX3_reach_138 : decode cX3_reach 138 = .ok (.iload_n 1, 1) := by decide +kernel
theorem dX3_reach_139 : decode cX3_reach 139 = .ok (.iaload, 1) := by decide +kernel
theorem dX3_reach_140 : decode cX3_reach 140 = .ok (.ior, 1) := by decide +kernel
theorem dX3_reach_141 : decode cX3_reach 141 = .ok (.iastore, 1) := by decide +kernel
theorem dX3_reach_142 : decode cX3_reach 142 = .ok (.return_, 1) := by decide +kernel
set_option maxRecDepth 20000 in
theorem ggX3_find_X3_sameRows : GoodIn wsX3_find wsX3_sameRows := goodIn_r _ [6, 7, 8, 9, 10, 11] (by decide +kernel) (by decide +kernel)
set_option maxRecDepth 20000 in
theorem gX3_find_X3_sameRows : GoodIn wsX3_find (wsV RX3 47 RX3 yX3_sameRows wsX3_sameRows) := goodIn_app (goodIn_of _ (by decide +kernel)) ggX3_find_X3_sameRows
theorem dX3_find_0 : decode cX3_find 0 = .ok (.iconst 0, 1) := by decide +kernel
theorem dX3_find_1 : decode cX3_find 1 = .ok (.istore_n 1, 1) := by decide +kernel
theorem dX3_find_2 : decode cX3_find 2 = .ok (.iload_n 1, 1) := by decide +kernel
theorem dX3_find_3 : decode cX3_find 3 = .ok (.aload_n 0, 1) := by decide +kernel
theorem dX3_find_4 : decode cX3_find 4 = .ok (.getfield 9, 3) := by decide +kernel
theorem dX3_find_7 : decode cX3_find 7 = .ok (.if_icmp .ge 21, 3) := by decide +kernel
theorem dX3_find_10 : decode cX3_find 10 = .ok (.aload_n 0, 1) := by decide +kernel
theorem dX3_find_11 : decode cX3_find 11 = .ok (.iload_n 1, 1) := by decide +kernel
theorem dX3_find_12 : decode cX3_find 12 = .ok (.aload_n 0, 1) := by decide +kernel
theorem dX3_find_13 : decode cX3_find 13 = .ok (.getfield 9, 3) := by decide +kernel
theorem dX3_find_16 : decode cX3_find 16 = .ok (.invokevirtual 47, 3) := by decide +kernel
theorem dX3_find_19 : decode cX3_find 19 = .ok (.ifCond .ne 9, 3) := by decide +kernel
theorem dX3_find_22 : decode cX3_find 22 = .ok (.iinc 1 1, 3) := by decide +kernel
theorem dX3_find_25 : decode cX3_find 25 = .ok (.goto (-23), 3) := by decide +kernel
theorem dX3_find_28 : decode cX3_find 28 = .ok (.iload_n 1, 1) := by decide +kernel
theorem dX3_find_29 : decode cX3_find 29 = .ok (.ireturn, 1) := by decide +kernel
theorem dX3_sameRows_0 : decode cX3_sameRows 0 = .ok (.iconst 0, 1) := by decide +kernel
theorem dX3_sameRows_1 : decode cX3_sameRows 1 = .ok (.istore_n 3, 1) := by decide +kernel
theorem dX3_sameRows_2 : decode cX3_sameRows 2 = .ok (.iload_n 3, 1) := by decide +kernel
theorem dX3_sameRows_3 : decode cX3_sameRows 3 = .ok (.bipush 6, 2) := by decide +kernel
theorem dX3_sameRows_5 : decode cX3_sameRows 5 = .ok (.if_icmp .ge 36, 3) := by decide +kernel
theorem dX3_sameRows_8 : decode cX3_sameRows 8 = .ok (.aload_n 0, 1) := by decide +kernel
theorem dX3_sameRows_9 : decode cX3_sameRows 9 = .ok (.getfield 15, 3) := by decide +kernel
theorem dX3_sameRows_12 : decode cX3_sameRows 12 = .ok (.iload_n 1, 1) := by decide +kernel
theorem dX3_sameRows_13 : decode cX3_sameRows 13 = .ok (.bipush 6, 2) := by decide +kernel
theorem dX3_sameRows_15 : decode cX3_sameRows 15 = .ok (.imul, 1) := by decide +kernel
theorem dX3_sameRows_16 : decode cX3_sameRows 16 = .ok (.iload_n 3, 1) := by decide +kernel
theorem dX3_sameRows_17 : decode cX3_sameRows 17 = .ok (.iadd, 1) := by decide +kernel
theorem dX3_sameRows_18 : decode cX3_sameRows 18 = .ok (.iaload, 1) := by decide +kernel
theorem dX3_sameRows_19 : decode cX3_sameRows 19 = .ok (.aload_n 0, 1) := by decide +kernel
theorem dX3_sameRows_20 : decode cX3_sameRows 20 = .ok (.getfield 15, 3) := by decide +kernel
theorem dX3_sameRows_23 : decode cX3_sameRows 23 = .ok (.iload_n 2, 1) := by decide +kernel
theorem dX3_sameRows_24 : decode cX3_sameRows 24 = .ok (.bipush 6, 2) := by decide +kernel
theorem dX3_sameRows_26 : decode cX3_sameRows 26 = .ok (.imul, 1) := by decide +kernel
theorem dX3_sameRows_27 : decode cX3_sameRows 27 = .ok (.iload_n 3, 1) := by decide +kernel
theorem dX3_sameRows_28 : decode cX3_sameRows 28 = .ok (.iadd, 1) := by decide +kernel
theorem dX3_sameRows_29 : decode cX3_sameRows 29 = .ok (.iaload, 1) := by decide +kernel
theorem dX3_sameRows_30 : decode cX3_sameRows 30 = .ok (.if_icmp .eq 5, 3) := by decide +kernel
theorem dX3_sameRows_33 : decode cX3_sameRows 33 = .ok (.iconst 0, 1) := by decide +kernel
theorem dX3_sameRows_34 : decode cX3_sameRows 34 = .ok (.ireturn, 1) := by decide +kernel
theorem dX3_sameRows_35 : decode cX3_sameRows 35 = .ok (.iinc 3 1, 3) := by decide +kernel
theorem dX3_sameRows_38 : decode cX3_sameRows 38 = .ok (.goto (-36), 3) := by decide +kernel
theorem dX3_sameRows_41 : decode cX3_sameRows 41 = .ok (.iconst 1, 1) := by decide +kernel
theorem dX3_sameRows_42 : decode cX3_sameRows 42 = .ok (.ireturn, 1) := by decide +kernel
theorem dX3_placeOf_0 : decode cX3_placeOf 0 = .ok (.iconst 0, 1) := by decide +kernel
theorem dX3_placeOf_1 : decode cX3_placeOf 1 = .ok (.istore_n 3, 1) := by decide +kernel
theorem dX3_placeOf_2 : decode cX3_placeOf 2 = .ok (.iload_n 3, 1) := by decide +kernel
theorem dX3_placeOf_3 : decode cX3_placeOf 3 = .ok (.iconst 5, 1) := by decide +kernel
theorem dX3_placeOf_4 : decode cX3_placeOf 4 = .ok (.if_icmp .ge 24, 3) := by decide +kernel
theorem dX3_placeOf_7 : decode cX3_placeOf 7 = .ok (.aload_n 0, 1) := by decide +kernel
theorem dX3_placeOf_8 : decode cX3_placeOf 8 = .ok (.getfield 15, 3) := by decide +kernel
theorem dX3_placeOf_11 : decode cX3_placeOf 11 = .ok (.iload_n 2, 1) := by decide +kernel
theorem dX3_placeOf_12 : decode cX3_placeOf 12 = .ok (.bipush 6, 2) := by decide +kernel
theorem dX3_placeOf_14 : decode cX3_placeOf 14 = .ok (.imul, 1) := by decide +kernel
theorem dX3_placeOf_15 : decode cX3_placeOf 15 = .ok (.iload_n 3, 1) := by decide +kernel
theorem dX3_placeOf_16 : decode cX3_placeOf 16 = .ok (.iadd, 1) := by decide +kernel
theorem dX3_placeOf_17 : decode cX3_placeOf 17 = .ok (.iaload, 1) := by decide +kernel
theorem dX3_placeOf_18 : decode cX3_placeOf 18 = .ok (.iload_n 1, 1) := by decide +kernel
theorem dX3_placeOf_19 : decode cX3_placeOf 19 = .ok (.if_icmp .eq 9, 3) := by decide +kernel
theorem dX3_placeOf_22 : decode cX3_placeOf 22 = .ok (.iinc 3 1, 3) := by decide +kernel
theorem dX3_placeOf_25 : decode cX3_placeOf 25 = .ok (.goto (-23), 3) := by decide +kernel
theorem dX3_placeOf_28 : decode cX3_placeOf 28 = .ok (.iload_n 3, 1) := by decide +kernel
theorem dX3_placeOf_29 : decode cX3_placeOf 29 = .ok (.ireturn, 1) := by decide +kernel
end
section
set_option maxRecDepth 20000 in
theorem ggX1_init_X3_init : GoodIn wsX1_init wsX3_init := goodIn_r _ [15, 16, 2, 3, 17, 10, 18, 19, 20, 21, 22, 23, 24, 25, 26, 27, 6, 28, 29, 30, 31, 32, 33, 34, 35, 36, 37, 38, 39, 40, 41, 42, 43, 44, 45, 46, 47] (by decide +kernel) (by decide +kernel)
set_option maxRecDepth 20000 in
theorem gX1_init_X3_init : GoodIn wsX1_init (wsX3_init) := ggX1_init_X3_init
theorem dX1_init_0 : decode cX1_init 0 = .ok (.aload_n 0, 1) := by decide +kernel
theorem dX1_init_1 : decode cX1_init 1 = .ok (.invokespecial 3, 3) := by decide +kernel
theorem dX1_init_4 : decode cX1_init 4 = .ok (.aload_n 0, 1) := by decide +kernel
theorem dX1_init_5 : decode cX1_init 5 = .ok (.iconst 5, 1) := by decide +kernel
theorem dX1_init_6 : decode cX1_init 6 = .ok (.anewarray 9, 3) := by decide +kernel
theorem dX1_init_9 : decode cX1_init 9 = .ok (.dup, 1) := by decide +kernel
theorem dX1_init_10 : decode cX1_init 10 = .ok (.iconst 0, 1) := by decide +kernel
theorem dX1_init_11 : decode cX1_init 11 = .ok (.new 9, 3) := by decide +kernel
theorem dX1_init_14 : decode cX1_init 14 = .ok (.dup, 1) := by decide +kernel
theorem dX1_init_15 : decode cX1_init 15 = .ok (.iconst 0, 1) := by decide +kernel
theorem dX1_init_16 : decode cX1_init 16 = .ok (.invokespecial 11, 3) := by decide +kernel
theorem dX1_init_19 : decode cX1_init 19 = .ok (.aastore, 1) := by decide +kernel
theorem dX1_init_20 : decode cX1_init 20 = .ok (.dup, 1) := by decide +kernel
theorem dX1_init_21 : decode cX1_init 21 = .ok (.iconst 1, 1) := by decide +kernel
theorem dX1_init_22 : decode cX1_init 22 = .ok (.new 9, 3) := by decide +kernel
theorem dX1_init_25 : decode cX1_init 25 = .ok (.dup, 1) := by decide +kernel
theorem dX1_init_26 : decode cX1_init 26 = .ok (.iconst 1, 1) := by decide +kernel
theorem dX1_init_27 : decode cX1_init 27 = .ok (.invokespecial 11, 3) := by decide +kernel
theorem dX1_init_30 : decode cX1_init 30 = .ok (.aastore, 1) := by decide +kernel
theorem dX1_init_31 : decode cX1_init 31 = .ok (.dup, 1) := by decide +kernel
theorem dX1_init_32 : decode cX1_init 32 = .ok (.iconst 2, 1) := by decide +kernel
theorem dX1_init_33 : decode cX1_init 33 = .ok (.new 9, 3) := by decide +kernel
theorem dX1_init_36 : decode cX1_init 36 = .ok (.dup, 1) := by decide +kernel
theorem dX1_init_37 : decode cX1_init 37 = .ok (.iconst 2, 1) := by decide +kernel
theorem dX1_init_38 : decode cX1_init 38 = .ok (.invokespecial 11, 3) := by decide +kernel
theorem dX1_init_41 : decode cX1_init 41 = .ok (.aastore, 1) := by decide +kernel
theorem dX1_init_42 : decode cX1_init 42 = .ok (.dup, 1) := by decide +kernel
theorem dX1_init_43 : decode cX1_init 43 = .ok (.iconst 3, 1) := by decide +kernel
theorem dX1_init_44 : decode cX1_init 44 = .ok (.new 9, 3) := by decide +kernel
theorem dX1_init_47 : decode cX1_init 47 = .ok (.dup, 1) := by decide +kernel
theorem dX1_init_48 : decode cX1_init 48 = .ok (.iconst 3, 1) := by decide +kernel
theorem dX1_init_49 : decode cX1_init 49 = .ok (.invokespecial 11, 3) := by decide +kernel
theorem dX1_init_52 : decode cX1_init 52 = .ok (.aastore, 1) := by decide +kernel
theorem dX1_init_53 : decode cX1_init 53 = .ok (.dup, 1) := by decide +kernel
theorem dX1_init_54 : decode cX1_init 54 = .ok (.iconst 4, 1) := by decide +kernel
theorem dX1_init_55 : decode cX1_init 55 = .ok (.new 9, 3) := by decide +kernel
theorem dX1_init_58 : decode cX1_init 58 = .ok (.dup, 1) := by decide +kernel
theorem dX1_init_59 : decode cX1_init 59 = .ok (.iconst 4, 1) := by decide +kernel
theorem dX1_init_60 : decode cX1_init 60 = .ok (.invokespecial 11, 3) := by decide +kernel
theorem dX1_init_63 : decode cX1_init 63 = .ok (.aastore, 1) := by decide +kernel
theorem dX1_init_64 : decode cX1_init 64 = .ok (.putfield 14, 3) := by decide +kernel
theorem dX1_init_67 : decode cX1_init 67 = .ok (.aload_n 0, 1) := by decide +kernel
theorem dX1_init_68 : decode cX1_init 68 = .ok (.iconst 3, 1) := by decide +kernel
theorem dX1_init_69 : decode cX1_init 69 = .ok (.anewarray 9, 3) := by decide +kernel
theorem dX1_init_72 : decode cX1_init 72 = .ok (.dup, 1) := by decide +kernel
theorem dX1_init_73 : decode cX1_init 73 = .ok (.iconst 0, 1) := by decide +kernel
theorem dX1_init_74 : decode cX1_init 74 = .ok (.aload_n 0, 1) := by decide +kernel
theorem dX1_init_75 : decode cX1_init 75 = .ok (.getfield 14, 3) := by decide +kernel
theorem dX1_init_78 : decode cX1_init 78 = .ok (.iconst 3, 1) := by decide +kernel
theorem dX1_init_79 : decode cX1_init 79 = .ok (.aaload, 1) := by decide +kernel
theorem dX1_init_80 : decode cX1_init 80 = .ok (.aastore, 1) := by decide +kernel
theorem dX1_init_81 : decode cX1_init 81 = .ok (.dup, 1) := by decide +kernel
theorem dX1_init_82 : decode cX1_init 82 = .ok (.iconst 1, 1) := by decide +kernel
theorem dX1_init_83 : decode cX1_init 83 = .ok (.aload_n 0, 1) := by decide +kernel
theorem dX1_init_84 : decode cX1_init 84 = .ok (.getfield 14, 3) := by decide +kernel
theorem dX1_init_87 : decode cX1_init 87 = .ok (.iconst 3, 1) := by decide +kernel
theorem dX1_init_88 : decode cX1_init 88 = .ok (.aaload, 1) := by decide +kernel
theorem dX1_init_89 : decode cX1_init 89 = .ok (.aastore, 1) := by decide +kernel
theorem dX1_init_90 : decode cX1_init 90 = .ok (.dup, 1) := by decide +kernel
theorem dX1_init_91 : decode cX1_init 91 = .ok (.iconst 2, 1) := by decide +kernel
theorem dX1_init_92 : decode cX1_init 92 = .ok (.aload_n 0, 1) := by decide +kernel
theorem dX1_init_93 : decode cX1_init 93 = .ok (.getfield 14, 3) := by decide +kernel
theorem dX1_init_96 : decode cX1_init 96 = .ok (.iconst 3, 1) := by decide +kernel
theorem dX1_init_97 : decode cX1_init 97 = .ok (.aaload, 1) := by decide +kernel
theorem dX1_init_98 : decode cX1_init 98 = .ok (.aastore, 1) := by decide +kernel
theorem dX1_init_99 : decode cX1_init 99 = .ok (.putfield 20, 3) := by decide +kernel
theorem dX1_init_102 : decode cX1_init 102 = .ok (.aload_n 0, 1) := by decide +kernel
theorem dX1_init_103 : decode cX1_init 103 = .ok (.iconst 3, 1) := by decide +kernel
theorem dX1_init_104 : decode cX1_init 104 = .ok (.bipush 24, 2) := by decide +kernel
theorem dX1_init_106 : decode cX1_init 106 = .ok (.multianewarray 23 2, 4) := by decide +kernel
theorem dX1_init_110 : decode cX1_init 110 = .ok (.putfield 25, 3) := by decide +kernel
theorem dX1_init_113 : decode cX1_init 113 = .ok (.aload_n 0, 1) := by decide +kernel
theorem dX1_init_114 : decode cX1_init 114 = .ok (.sipush 576, 3) := by decide +kernel
theorem dX1_init_117 : decode cX1_init 117 = .ok (.newarray .int, 2) := by decide +kernel
theorem dX1_init_119 : decode cX1_init 119 = .ok (.putfield 28, 3) := by decide +kernel
theorem dX1_init_122 : decode cX1_init 122 = .ok (.return_, 1) := by decide +kernel
set_option maxRecDepth 20000 in
theorem ggX1_look_X1_layOut : GoodIn wsX1_look wsX1_layOut := goodIn_r _ [13, 14, 15, 16, 6, 7, 8, 17, 18, 19, 20, 21, 22, 23, 24, 12, 25, 26, 27, 62, 63, 64, 65, 49, 50, 51, 52, 53, 54, 55, 56, 57, 66, 67, 68, 58, 59, 60, 61] (by decide +kernel) (by decide +kernel)
set_option maxRecDepth 20000 in
theorem gX1_look_X1_layOut : GoodIn wsX1_look (wsV RX1 32 RX1 yX1_layOut wsX1_layOut) := goodIn_app (goodIn_of _ (by decide +kernel)) ggX1_look_X1_layOut
set_option maxRecDepth 20000 in
theorem ggX1_look_J6_bitCount_0f7a4 : GoodIn wsX1_look wsJ6_bitCount_0f7a4 := goodIn_r _ [31, 32, 33, 34] (by decide +kernel) (by decide +kernel)
set_option maxRecDepth 20000 in
theorem gX1_look_J6_bitCount_0f7a4 : GoodIn wsX1_look (va_wsS RX1 55 yJ6_bitCount_0f7a4 wsJ6_bitCount_0f7a4) := goodIn_app (goodIn_of _ (by decide +kernel)) ggX1_look_J6_bitCount_0f7a4
set_option maxRecDepth 20000 in
theorem ggX1_look_X1_tryThird : GoodIn wsX1_look wsX1_tryThird := goodIn_r _ [38, 8, 6, 7, 5, 39, 40, 41, 42, 28, 29, 30, 31, 32, 33, 34, 43, 44, 45, 12, 46, 47, 1, 2, 3, 48, 49, 50, 51, 52, 53, 54, 55, 56, 57, 58, 59, 60, 61] (by decide +kernel) (by decide +kernel)
set_option maxRecDepth 20000 in
theorem gX1_look_X1_tryThird : GoodIn wsX1_look (wsV RX1 59 RX1 yX1_tryThird wsX1_tryThird) := goodIn_app (goodIn_of _ (by decide +kernel)) ggX1_look_X1_tryThird
theorem dX1_look_0 : decode cX1_look 0 = .ok (.iconst 0, 1) := by decide +kernel
theorem dX1_look_1 : decode cX1_look 1 = .ok (.istore_n 2, 1) := by decide +kernel
theorem dX1_look_2 : decode cX1_look 2 = .ok (.iload_n 2, 1) := by decide +kernel
theorem dX1_look_3 : decode cX1_look 3 = .ok (.iconst 3, 1) := by decide +kernel
theorem dX1_look_4 : decode cX1_look 4 = .ok (.if_icmp .ge 15, 3) := by decide +kernel
theorem dX1_look_7 : decode cX1_look 7 = .ok (.aload_n 0, 1) := by decide +kernel
theorem dX1_look_8 : decode cX1_look 8 = .ok (.aload_n 1, 1) := by decide +kernel
theorem dX1_look_9 : decode cX1_look 9 = .ok (.iload_n 2, 1) := by decide +kernel
theorem dX1_look_10 : decode cX1_look 10 = .ok (.invokevirtual 32, 3) := by decide +kernel
theorem dX1_look_13 : decode cX1_look 13 = .ok (.iinc 2 1, 3) := by decide +kernel
theorem dX1_look_16 : decode cX1_look 16 = .ok (.goto (-14), 3) := by decide +kernel
theorem dX1_look_19 : decode cX1_look 19 = .ok (.aload_n 0, 1) := by decide +kernel
theorem dX1_look_20 : decode cX1_look 20 = .ok (.iconst 0, 1) := by decide +kernel
theorem dX1_look_21 : decode cX1_look 21 = .ok (.putfield 36, 3) := by decide +kernel
theorem dX1_look_24 : decode cX1_look 24 = .ok (.aload_n 0, 1) := by decide +kernel
theorem dX1_look_25 : decode cX1_look 25 = .ok (.iconst 0, 1) := by decide +kernel
theorem dX1_look_26 : decode cX1_look 26 = .ok (.putfield 40, 3) := by decide +kernel
theorem dX1_look_29 : decode cX1_look 29 = .ok (.aload_n 0, 1) := by decide +kernel
theorem dX1_look_30 : decode cX1_look 30 = .ok (.iconst 0, 1) := by decide +kernel
theorem dX1_look_31 : decode cX1_look 31 = .ok (.putfield 43, 3) := by decide +kernel
theorem dX1_look_34 : decode cX1_look 34 = .ok (.aload_n 0, 1) := by decide +kernel
theorem dX1_look_35 : decode cX1_look 35 = .ok (.ldc 48, 2) := by decide +kernel
theorem dX1_look_37 : decode cX1_look 37 = .ok (.putfield 49, 3) := by decide +kernel
theorem dX1_look_40 : decode cX1_look 40 = .ok (.iconst 0, 1) := by decide +kernel
theorem dX1_look_41 : decode cX1_look 41 = .ok (.istore_n 2, 1) := by decide +kernel
theorem dX1_look_42 : decode cX1_look 42 = .ok (.iload_n 2, 1) := by decide +kernel
theorem dX1_look_43 : decode cX1_look 43 = .ok (.aload_n 0, 1) := by decide +kernel
theorem dX1_look_44 : decode cX1_look 44 = .ok (.getfield 20, 3) := by decide +kernel
theorem dX1_look_47 : decode cX1_look 47 = .ok (.iconst 0, 1) := by decide +kernel
theorem dX1_look_48 : decode cX1_look 48 = .ok (.aaload, 1) := by decide +kernel
theorem dX1_look_49 : decode cX1_look 49 = .ok (.getfield 52, 3) := by decide +kernel
theorem dX1_look_52 : decode cX1_look 52 = .ok (.if_icmp .ge 74, 3) := by decide +kernel
theorem dX1_look_55 : decode cX1_look 55 = .ok (.iconst 0, 1) := by decide +kernel
theorem dX1_look_56 : decode cX1_look 56 = .ok (.istore_n 3, 1) := by decide +kernel
theorem dX1_look_57 : decode cX1_look 57 = .ok (.iload_n 3, 1) := by decide +kernel
theorem dX1_look_58 : decode cX1_look 58 = .ok (.aload_n 0, 1) := by decide +kernel
theorem dX1_look_59 : decode cX1_look 59 = .ok (.getfield 20, 3) := by decide +kernel
theorem dX1_look_62 : decode cX1_look 62 = .ok (.iconst 1, 1) := by decide +kernel
theorem dX1_look_63 : decode cX1_look 63 = .ok (.aaload, 1) := by decide +kernel
theorem dX1_look_64 : decode cX1_look 64 = .ok (.getfield 52, 3) := by decide +kernel
theorem dX1_look_67 : decode cX1_look 67 = .ok (.if_icmp .ge 53, 3) := by decide +kernel
theorem dX1_look_70 : decode cX1_look 70 = .ok (.aload_n 0, 1) := by decide +kernel
theorem dX1_look_71 : decode cX1_look 71 = .ok (.getfield 25, 3) := by decide +kernel
theorem dX1_look_74 : decode cX1_look 74 = .ok (.iconst 0, 1) := by decide +kernel
theorem dX1_look_75 : decode cX1_look 75 = .ok (.aaload, 1) := by decide +kernel
theorem dX1_look_76 : decode cX1_look 76 = .ok (.iload_n 2, 1) := by decide +kernel
theorem dX1_look_77 : decode cX1_look 77 = .ok (.iaload, 1) := by decide +kernel
theorem dX1_look_78 : decode cX1_look 78 = .ok (.aload_n 0, 1) := by decide +kernel
theorem dX1_look_79 : decode cX1_look 79 = .ok (.getfield 25, 3) := by decide +kernel
theorem dX1_look_82 : decode cX1_look 82 = .ok (.iconst 1, 1) := by decide +kernel
theorem dX1_look_83 : decode cX1_look 83 = .ok (.aaload, 1) := by decide +kernel
theorem dX1_look_84 : decode cX1_look 84 = .ok (.iload_n 3, 1) := by decide +kernel
theorem dX1_look_85 : decode cX1_look 85 = .ok (.iaload, 1) := by decide +kernel
theorem dX1_look_86 : decode cX1_look 86 = .ok (.iand, 1) := by decide +kernel
theorem dX1_look_87 : decode cX1_look 87 = .ok (.invokestatic 55, 3) := by decide +kernel
theorem dX1_look_90 : decode cX1_look 90 = .ok (.istore 4, 2) := by decide +kernel
theorem dX1_look_92 : decode cX1_look 92 = .ok (.iload 4, 2) := by decide +kernel
theorem dX1_look_94 : decode cX1_look 94 = .ok (.ifCond .eq 12, 3) := by decide +kernel
theorem dX1_look_97 : decode cX1_look 97 = .ok (.iload 4, 2) := by decide +kernel
theorem dX1_look_99 : decode cX1_look 99 = .ok (.aload_n 0, 1) := by decide +kernel
theorem dX1_look_100 : decode cX1_look 100 = .ok (.getfield 49, 3) := by decide +kernel
theorem dX1_look_103 : decode cX1_look 103 = .ok (.if_icmp .ge 11, 3) := by decide +kernel
theorem dX1_look_106 : decode cX1_look 106 = .ok (.aload_n 0, 1) := by decide +kernel
theorem dX1_look_107 : decode cX1_look 107 = .ok (.iload_n 2, 1) := by decide +kernel
theorem dX1_look_108 : decode cX1_look 108 = .ok (.iload_n 3, 1) := by decide +kernel
theorem dX1_look_109 : decode cX1_look 109 = .ok (.iload 4, 2) := by decide +kernel
theorem dX1_look_111 : decode cX1_look 111 = .ok (.invokevirtual 59, 3) := by decide +kernel
theorem dX1_look_114 : decode cX1_look 114 = .ok (.iinc 3 1, 3) := by decide +kernel
theorem dX1_look_117 : decode cX1_look 117 = .ok (.goto (-60), 3) := by decide +kernel
theorem dX1_look_120 : decode cX1_look 120 = .ok (.iinc 2 1, 3) := by decide +kernel
theorem dX1_look_123 : decode cX1_look 123 = .ok (.goto (-81), 3) := by decide +kernel
theorem dX1_look_126 : decode cX1_look 126 = .ok (.return_, 1) := by decide +kernel
set_option maxRecDepth 20000 in
theorem ggX1_layOut_X2_has : GoodIn wsX1_layOut wsX2_has := goodIn_r _ [11, 12, 19, 20, 21, 22] (by decide +kernel) (by decide +kernel)
set_option maxRecDepth 20000 in
theorem gX1_layOut_X2_has : GoodIn wsX1_layOut (wsV RX1 63 RX2 yX2_has wsX2_has) := goodIn_app (goodIn_of _ (by decide +kernel)) ggX1_layOut_X2_has
set_option maxRecDepth 20000 in
theorem ggX1_layOut_X1_wallsOf : GoodIn wsX1_layOut wsX1_wallsOf := goodIn_r _ [16, 17, 18, 35, 36, 37, 38, 32, 33, 34] (by decide +kernel) (by decide +kernel)
set_option maxRecDepth 20000 in
theorem gX1_layOut_X1_wallsOf : GoodIn wsX1_layOut (va_wsS RX1 78 yX1_wallsOf wsX1_wallsOf) := goodIn_app (goodIn_of _ (by decide +kernel)) ggX1_layOut_X1_wallsOf
theorem dX1_layOut_0 : decode cX1_layOut 0 = .ok (.aload_n 1, 1) := by decide +kernel
theorem dX1_layOut_1 : decode cX1_layOut 1 = .ok (.iload_n 2, 1) := by decide +kernel
theorem dX1_layOut_2 : decode cX1_layOut 2 = .ok (.invokevirtual 63, 3) := by decide +kernel
theorem dX1_layOut_5 : decode cX1_layOut 5 = .ok (.istore_n 3, 1) := by decide +kernel
theorem dX1_layOut_6 : decode cX1_layOut 6 = .ok (.aload_n 1, 1) := by decide +kernel
theorem dX1_layOut_7 : decode cX1_layOut 7 = .ok (.getfield 69, 3) := by decide +kernel
theorem dX1_layOut_10 : decode cX1_layOut 10 = .ok (.iload_n 2, 1) := by decide +kernel
theorem dX1_layOut_11 : decode cX1_layOut 11 = .ok (.aaload, 1) := by decide +kernel
theorem dX1_layOut_12 : decode cX1_layOut 12 = .ok (.astore 4, 2) := by decide +kernel
theorem dX1_layOut_14 : decode cX1_layOut 14 = .ok (.aload_n 0, 1) := by decide +kernel
theorem dX1_layOut_15 : decode cX1_layOut 15 = .ok (.getfield 14, 3) := by decide +kernel
theorem dX1_layOut_18 : decode cX1_layOut 18 = .ok (.iload_n 3, 1) := by decide +kernel
theorem dX1_layOut_19 : decode cX1_layOut 19 = .ok (.ifCond .eq 11, 3) := by decide +kernel
theorem dX1_layOut_22 : decode cX1_layOut 22 = .ok (.aload 4, 2) := by decide +kernel
theorem dX1_layOut_24 : decode cX1_layOut 24 = .ok (.getfield 73, 3) := by decide +kernel
theorem dX1_layOut_27 : decode cX1_layOut 27 = .ok (.goto 4, 3) := by decide +kernel
theorem dX1_layOut_30 : decode cX1_layOut 30 = .ok (.iconst 3, 1) := by decide +kernel
theorem dX1_layOut_31 : decode cX1_layOut 31 = .ok (.aaload, 1) := by decide +kernel
theorem dX1_layOut_32 : decode cX1_layOut 32 = .ok (.astore 5, 2) := by decide +kernel
theorem dX1_layOut_34 : decode cX1_layOut 34 = .ok (.aload_n 0, 1) := by decide +kernel
theorem dX1_layOut_35 : decode cX1_layOut 35 = .ok (.getfield 20, 3) := by decide +kernel
theorem dX1_layOut_38 : decode cX1_layOut 38 = .ok (.iload_n 2, 1) := by decide +kernel
theorem dX1_layOut_39 : decode cX1_layOut 39 = .ok (.aload 5, 2) := by decide +kernel
theorem dX1_layOut_41 : decode cX1_layOut 41 = .ok (.aastore, 1) := by decide +kernel
theorem dX1_layOut_42 : decode cX1_layOut 42 = .ok (.iconst 0, 1) := by decide +kernel
theorem dX1_layOut_43 : decode cX1_layOut 43 = .ok (.istore 6, 2) := by decide +kernel
theorem dX1_layOut_45 : decode cX1_layOut 45 = .ok (.iload 6, 2) := by decide +kernel
theorem dX1_layOut_47 : decode cX1_layOut 47 = .ok (.aload 5, 2) := by decide +kernel
theorem dX1_layOut_49 : decode cX1_layOut 49 = .ok (.getfield 52, 3) := by decide +kernel
theorem dX1_layOut_52 : decode cX1_layOut 52 = .ok (.if_icmp .ge 35, 3) := by decide +kernel
theorem dX1_layOut_55 : decode cX1_layOut 55 = .ok (.aload_n 0, 1) := by decide +kernel
theorem dX1_layOut_56 : decode cX1_layOut 56 = .ok (.getfield 25, 3) := by decide +kernel
theorem dX1_layOut_59 : decode cX1_layOut 59 = .ok (.iload_n 2, 1) := by decide +kernel
theorem dX1_layOut_60 : decode cX1_layOut 60 = .ok (.aaload, 1) := by decide +kernel
theorem dX1_layOut_61 : decode cX1_layOut 61 = .ok (.iload 6, 2) := by decide +kernel
theorem dX1_layOut_63 : decode cX1_layOut 63 = .ok (.iload_n 3, 1) := by decide +kernel
theorem dX1_layOut_64 : decode cX1_layOut 64 = .ok (.ifCond .eq 15, 3) := by decide +kernel
theorem dX1_layOut_67 : decode cX1_layOut 67 = .ok (.aload 4, 2) := by decide +kernel
theorem dX1_layOut_69 : decode cX1_layOut 69 = .ok (.aload 5, 2) := by decide +kernel
theorem dX1_layOut_71 : decode cX1_layOut 71 = .ok (.iload 6, 2) := by decide +kernel
theorem dX1_layOut_73 : decode cX1_layOut 73 = .ok (.invokestatic 78, 3) := by decide +kernel
theorem dX1_layOut_76 : decode cX1_layOut 76 = .ok (.goto 4, 3) := by decide +kernel
theorem dX1_layOut_79 : decode cX1_layOut 79 = .ok (.iconst 0, 1) := by decide +kernel
theorem dX1_layOut_80 : decode cX1_layOut 80 = .ok (.iastore, 1) := by decide +kernel
theorem dX1_layOut_81 : decode cX1_layOut 81 = .ok (.iinc 6 1, 3) := by decide +kernel
theorem dX1_layOut_84 : decode cX1_layOut 84 = .ok (.goto (-39), 3) := by decide +kernel
theorem dX1_layOut_87 : decode cX1_layOut 87 = .ok (.return_, 1) := by decide +kernel
theorem dX1_wallsOf_0 : decode cX1_wallsOf 0 = .ok (.iconst 0, 1) := by decide +kernel
theorem dX1_wallsOf_1 : decode cX1_wallsOf 1 = .ok (.istore_n 3, 1) := by decide +kernel
theorem dX1_wallsOf_2 : decode cX1_wallsOf 2 = .ok (.iconst 0, 1) := by decide +kernel
theorem dX1_wallsOf_3 : decode cX1_wallsOf 3 = .ok (.istore 4, 2) := by decide +kernel
theorem dX1_wallsOf_5 : decode cX1_wallsOf 5 = .ok (.iload 4, 2) := by decide +kernel
theorem dX1_wallsOf_7 : decode cX1_wallsOf 7 = .ok (.iconst 4, 1) := by decide +kernel
theorem dX1_wallsOf_8 : decode cX1_wallsOf 8 = .ok (.if_icmp .ge 43, 3) := by decide +kernel
theorem dX1_wallsOf_11 : decode cX1_wallsOf 11 = .ok (.aload_n 1, 1) := by decide +kernel
theorem dX1_wallsOf_12 : decode cX1_wallsOf 12 = .ok (.getfield 82, 3) := by decide +kernel
theorem dX1_wallsOf_15 : decode cX1_wallsOf 15 = .ok (.iload_n 2, 1) := by decide +kernel
theorem dX1_wallsOf_16 : decode cX1_wallsOf 16 = .ok (.bipush 6, 2) := by decide +kernel
theorem dX1_wallsOf_18 : decode cX1_wallsOf 18 = .ok (.imul, 1) := by decide +kernel
theorem dX1_wallsOf_19 : decode cX1_wallsOf 19 = .ok (.iconst 2, 1) := by decide +kernel
theorem dX1_wallsOf_20 : decode cX1_wallsOf 20 = .ok (.iadd, 1) := by decide +kernel
theorem dX1_wallsOf_21 : decode cX1_wallsOf 21 = .ok (.iload 4, 2) := by decide +kernel
theorem dX1_wallsOf_23 : decode cX1_wallsOf 23 = .ok (.iadd, 1) := by decide +kernel
theorem dX1_wallsOf_24 : decode cX1_wallsOf 24 = .ok (.iaload, 1) := by decide +kernel
theorem dX1_wallsOf_25 : decode cX1_wallsOf 25 = .ok (.istore 5, 2) := by decide +kernel
theorem dX1_wallsOf_27 : decode cX1_wallsOf 27 = .ok (.iload_n 3, 1) := by decide +kernel
theorem dX1_wallsOf_28 : decode cX1_wallsOf 28 = .ok (.iconst 1, 1) := by decide +kernel
theorem dX1_wallsOf_29 : decode cX1_wallsOf 29 = .ok (.iload 4, 2) := by decide +kernel
theorem dX1_wallsOf_31 : decode cX1_wallsOf 31 = .ok (.bipush 6, 2) := by decide +kernel
theorem dX1_wallsOf_33 : decode cX1_wallsOf 33 = .ok (.imul, 1) := by decide +kernel
theorem dX1_wallsOf_34 : decode cX1_wallsOf 34 = .ok (.aload_n 0, 1) := by decide +kernel
theorem dX1_wallsOf_35 : decode cX1_wallsOf 35 = .ok (.getfield 85, 3) := by decide +kernel
theorem dX1_wallsOf_38 : decode cX1_wallsOf 38 = .ok (.iload 5, 2) := by decide +kernel
theorem dX1_wallsOf_40 : decode cX1_wallsOf 40 = .ok (.iaload, 1) := by decide +kernel
theorem dX1_wallsOf_41 : decode cX1_wallsOf 41 = .ok (.iadd, 1) := by decide +kernel
theorem dX1_wallsOf_42 : decode cX1_wallsOf 42 = .ok (.ishl, 1) := by decide +kernel
theorem dX1_wallsOf_43 : decode cX1_wallsOf 43 = .ok (.ior, 1) := by decide +kernel
theorem dX1_wallsOf_44 : decode cX1_wallsOf 44 = .ok (.istore_n 3, 1) := by decide +kernel
theorem dX1_wallsOf_45 : decode cX1_wallsOf 45 = .ok (.iinc 4 1, 3) := by decide +kernel
theorem dX1_wallsOf_48 : decode cX1_wallsOf 48 = .ok (.goto (-43), 3) := by decide +kernel
theorem dX1_wallsOf_51 : decode cX1_wallsOf 51 = .ok (.iload_n 3, 1) := by decide +kernel
theorem dX1_wallsOf_52 : decode cX1_wallsOf 52 = .ok (.ireturn, 1) := by decide +kernel
set_option maxRecDepth 20000 in
theorem ggX1_tryThird_J6_bitCount_0f7a4 : GoodIn wsX1_tryThird wsJ6_bitCount_0f7a4 := goodIn_r _ [12, 13, 14, 15] (by decide +kernel) (by decide +kernel)
set_option maxRecDepth 20000 in
theorem gX1_tryThird_J6_bitCount_0f7a4 : GoodIn wsX1_tryThird (va_wsS RX1 55 yJ6_bitCount_0f7a4 wsJ6_bitCount_0f7a4) := goodIn_app (goodIn_of _ (by decide +kernel)) ggX1_tryThird_J6_bitCount_0f7a4
set_option maxRecDepth 20000 in
theorem ggX1_tryThird_X1_addSolution : GoodIn wsX1_tryThird wsX1_addSolution := goodIn_r _ [20, 2, 21, 22, 23, 24, 25, 26, 27, 28, 29, 30, 31, 32, 33, 34, 35, 36, 37, 38] (by decide +kernel) (by decide +kernel)
set_option maxRecDepth 20000 in
theorem gX1_tryThird_X1_addSolution : GoodIn wsX1_tryThird (wsV RX1 94 RX1 yX1_addSolution wsX1_addSolution) := goodIn_app (goodIn_of _ (by decide +kernel)) ggX1_tryThird_X1_addSolution
theorem dX1_tryThird_0 : decode cX1_tryThird 0 = .ok (.aload_n 0, 1) := by decide +kernel
theorem dX1_tryThird_1 : decode cX1_tryThird 1 = .ok (.getfield 25, 3) := by decide +kernel
theorem dX1_tryThird_4 : decode cX1_tryThird 4 = .ok (.iconst 0, 1) := by decide +kernel
theorem dX1_tryThird_5 : decode cX1_tryThird 5 = .ok (.aaload, 1) := by decide +kernel
theorem dX1_tryThird_6 : decode cX1_tryThird 6 = .ok (.iload_n 1, 1) := by decide +kernel
theorem dX1_tryThird_7 : decode cX1_tryThird 7 = .ok (.iaload, 1) := by decide +kernel
theorem dX1_tryThird_8 : decode cX1_tryThird 8 = .ok (.istore 4, 2) := by decide +kernel
theorem dX1_tryThird_10 : decode cX1_tryThird 10 = .ok (.aload_n 0, 1) := by decide +kernel
theorem dX1_tryThird_11 : decode cX1_tryThird 11 = .ok (.getfield 25, 3) := by decide +kernel
theorem dX1_tryThird_14 : decode cX1_tryThird 14 = .ok (.iconst 1, 1) := by decide +kernel
theorem dX1_tryThird_15 : decode cX1_tryThird 15 = .ok (.aaload, 1) := by decide +kernel
theorem dX1_tryThird_16 : decode cX1_tryThird 16 = .ok (.iload_n 2, 1) := by decide +kernel
theorem dX1_tryThird_17 : decode cX1_tryThird 17 = .ok (.iaload, 1) := by decide +kernel
theorem dX1_tryThird_18 : decode cX1_tryThird 18 = .ok (.istore 5, 2) := by decide +kernel
theorem dX1_tryThird_20 : decode cX1_tryThird 20 = .ok (.iconst 0, 1) := by decide +kernel
theorem dX1_tryThird_21 : decode cX1_tryThird 21 = .ok (.istore 6, 2) := by decide +kernel
theorem dX1_tryThird_23 : decode cX1_tryThird 23 = .ok (.iload 6, 2) := by decide +kernel
theorem dX1_tryThird_25 : decode cX1_tryThird 25 = .ok (.aload_n 0, 1) := by decide +kernel
theorem dX1_tryThird_26 : decode cX1_tryThird 26 = .ok (.getfield 20, 3) := by decide +kernel
theorem dX1_tryThird_29 : decode cX1_tryThird 29 = .ok (.iconst 2, 1) := by decide +kernel
theorem dX1_tryThird_30 : decode cX1_tryThird 30 = .ok (.aaload, 1) := by decide +kernel
theorem dX1_tryThird_31 : decode cX1_tryThird 31 = .ok (.getfield 52, 3) := by decide +kernel
theorem dX1_tryThird_34 : decode cX1_tryThird 34 = .ok (.if_icmp .ge 67, 3) := by decide +kernel
theorem dX1_tryThird_37 : decode cX1_tryThird 37 = .ok (.aload_n 0, 1) := by decide +kernel
theorem dX1_tryThird_38 : decode cX1_tryThird 38 = .ok (.getfield 25, 3) := by decide +kernel
theorem dX1_tryThird_41 : decode cX1_tryThird 41 = .ok (.iconst 2, 1) := by decide +kernel
theorem dX1_tryThird_42 : decode cX1_tryThird 42 = .ok (.aaload, 1) := by decide +kernel
theorem dX1_tryThird_43 : decode cX1_tryThird 43 = .ok (.iload 6, 2) := by decide +kernel
theorem dX1_tryThird_45 : decode cX1_tryThird 45 = .ok (.iaload, 1) := by decide +kernel
theorem dX1_tryThird_46 : decode cX1_tryThird 46 = .ok (.istore 7, 2) := by decide +kernel
theorem dX1_tryThird_48 : decode cX1_tryThird 48 = .ok (.iload_n 3, 1) := by decide +kernel
theorem dX1_tryThird_49 : decode cX1_tryThird 49 = .ok (.iload 7, 2) := by decide +kernel
theorem dX1_tryThird_51 : decode cX1_tryThird 51 = .ok (.iload 4, 2) := by decide +kernel
theorem dX1_tryThird_53 : decode cX1_tryThird 53 = .ok (.iand, 1) := by decide +kernel
theorem dX1_tryThird_54 : decode cX1_tryThird 54 = .ok (.invokestatic 55, 3) := by decide +kernel
theorem dX1_tryThird_57 : decode cX1_tryThird 57 = .ok (.iadd, 1) := by decide +kernel
theorem dX1_tryThird_58 : decode cX1_tryThird 58 = .ok (.iload 7, 2) := by decide +kernel
theorem dX1_tryThird_60 : decode cX1_tryThird 60 = .ok (.iload 5, 2) := by decide +kernel
theorem dX1_tryThird_62 : decode cX1_tryThird 62 = .ok (.iand, 1) := by decide +kernel
theorem dX1_tryThird_63 : decode cX1_tryThird 63 = .ok (.invokestatic 55, 3) := by decide +kernel
theorem dX1_tryThird_66 : decode cX1_tryThird 66 = .ok (.iadd, 1) := by decide +kernel
theorem dX1_tryThird_67 : decode cX1_tryThird 67 = .ok (.istore 8, 2) := by decide +kernel
theorem dX1_tryThird_69 : decode cX1_tryThird 69 = .ok (.aload_n 0, 1) := by decide +kernel
theorem dX1_tryThird_70 : decode cX1_tryThird 70 = .ok (.aload_n 0, 1) := by decide +kernel
theorem dX1_tryThird_71 : decode cX1_tryThird 71 = .ok (.getfield 49, 3) := by decide +kernel
theorem dX1_tryThird_74 : decode cX1_tryThird 74 = .ok (.iload 8, 2) := by decide +kernel
theorem dX1_tryThird_76 : decode cX1_tryThird 76 = .ok (.invokestatic 88, 3) := by decide +kernel
theorem dX1_tryThird_79 : decode cX1_tryThird 79 = .ok (.putfield 49, 3) := by decide +kernel
theorem dX1_tryThird_82 : decode cX1_tryThird 82 = .ok (.iload 8, 2) := by decide +kernel
theorem dX1_tryThird_84 : decode cX1_tryThird 84 = .ok (.ifCond .ne 11, 3) := by decide +kernel
theorem dX1_tryThird_87 : decode cX1_tryThird 87 = .ok (.aload_n 0, 1) := by decide +kernel
theorem dX1_tryThird_88 : decode cX1_tryThird 88 = .ok (.iload_n 1, 1) := by decide +kernel
theorem dX1_tryThird_89 : decode cX1_tryThird 89 = .ok (.iload_n 2, 1) := by decide +kernel
theorem dX1_tryThird_90 : decode cX1_tryThird 90 = .ok (.iload 6, 2) := by decide +kernel
theorem dX1_tryThird_92 : decode cX1_tryThird 92 = .ok (.invokevirtual 94, 3) := by decide +kernel
theorem dX1_tryThird_95 : decode cX1_tryThird 95 = .ok (.iinc 6 1, 3) := by decide +kernel
theorem dX1_tryThird_98 : decode cX1_tryThird 98 = .ok (.goto (-75), 3) := by decide +kernel
theorem dX1_tryThird_101 : decode cX1_tryThird 101 = .ok (.return_, 1) := by decide +kernel
theorem dX1_addSolution_0 : decode cX1_addSolution 0 = .ok (.aload_n 0, 1) := by decide +kernel
theorem dX1_addSolution_1 : decode cX1_addSolution 1 = .ok (.getfield 20, 3) := by decide +kernel
theorem dX1_addSolution_4 : decode cX1_addSolution 4 = .ok (.iconst 0, 1) := by decide +kernel
theorem dX1_addSolution_5 : decode cX1_addSolution 5 = .ok (.aaload, 1) := by decide +kernel
theorem dX1_addSolution_6 : decode cX1_addSolution 6 = .ok (.getfield 97, 3) := by decide +kernel
theorem dX1_addSolution_9 : decode cX1_addSolution 9 = .ok (.iload_n 1, 1) := by decide +kernel
theorem dX1_addSolution_10 : decode cX1_addSolution 10 = .ok (.iaload, 1) := by decide +kernel
theorem dX1_addSolution_11 : decode cX1_addSolution 11 = .ok (.aload_n 0, 1) := by decide +kernel
theorem dX1_addSolution_12 : decode cX1_addSolution 12 = .ok (.getfield 20, 3) := by decide +kernel
theorem dX1_addSolution_15 : decode cX1_addSolution 15 = .ok (.iconst 1, 1) := by decide +kernel
theorem dX1_addSolution_16 : decode cX1_addSolution 16 = .ok (.aaload, 1) := by decide +kernel
theorem dX1_addSolution_17 : decode cX1_addSolution 17 = .ok (.getfield 97, 3) := by decide +kernel
theorem dX1_addSolution_20 : decode cX1_addSolution 20 = .ok (.iload_n 2, 1) := by decide +kernel
theorem dX1_addSolution_21 : decode cX1_addSolution 21 = .ok (.iaload, 1) := by decide +kernel
theorem dX1_addSolution_22 : decode cX1_addSolution 22 = .ok (.iadd, 1) := by decide +kernel
theorem dX1_addSolution_23 : decode cX1_addSolution 23 = .ok (.aload_n 0, 1) := by decide +kernel
theorem dX1_addSolution_24 : decode cX1_addSolution 24 = .ok (.getfield 20, 3) := by decide +kernel
theorem dX1_addSolution_27 : decode cX1_addSolution 27 = .ok (.iconst 2, 1) := by decide +kernel
theorem dX1_addSolution_28 : decode cX1_addSolution 28 = .ok (.aaload, 1) := by decide +kernel
theorem dX1_addSolution_29 : decode cX1_addSolution 29 = .ok (.getfield 97, 3) := by decide +kernel
theorem dX1_addSolution_32 : decode cX1_addSolution 32 = .ok (.iload_n 3, 1) := by decide +kernel
theorem dX1_addSolution_33 : decode cX1_addSolution 33 = .ok (.iaload, 1) := by decide +kernel
theorem dX1_addSolution_34 : decode cX1_addSolution 34 = .ok (.iadd, 1) := by decide +kernel
theorem dX1_addSolution_35 : decode cX1_addSolution 35 = .ok (.istore 4, 2) := by decide +kernel
theorem dX1_addSolution_37 : decode cX1_addSolution 37 = .ok (.aload_n 0, 1) := by decide +kernel
theorem dX1_addSolution_38 : decode cX1_addSolution 38 = .ok (.getfield 36, 3) := by decide +kernel
theorem dX1_addSolution_41 : decode cX1_addSolution 41 = .ok (.ifCond .eq 12, 3) := by decide +kernel
theorem dX1_addSolution_44 : decode cX1_addSolution 44 = .ok (.iload 4, 2) := by decide +kernel
theorem dX1_addSolution_46 : decode cX1_addSolution 46 = .ok (.aload_n 0, 1) := by decide +kernel
theorem dX1_addSolution_47 : decode cX1_addSolution 47 = .ok (.getfield 40, 3) := by decide +kernel
theorem dX1_addSolution_50 : decode cX1_addSolution 50 = .ok (.if_icmp .ge 14, 3) := by decide +kernel
theorem dX1_addSolution_53 : decode cX1_addSolution 53 = .ok (.aload_n 0, 1) := by decide +kernel
theorem dX1_addSolution_54 : decode cX1_addSolution 54 = .ok (.iload 4, 2) := by decide +kernel
theorem dX1_addSolution_56 : decode cX1_addSolution 56 = .ok (.putfield 40, 3) := by decide +kernel
theorem dX1_addSolution_59 : decode cX1_addSolution 59 = .ok (.aload_n 0, 1) := by decide +kernel
theorem dX1_addSolution_60 : decode cX1_addSolution 60 = .ok (.iconst 0, 1) := by decide +kernel
theorem dX1_addSolution_61 : decode cX1_addSolution 61 = .ok (.putfield 43, 3) := by decide +kernel
theorem dX1_addSolution_64 : decode cX1_addSolution 64 = .ok (.iload 4, 2) := by decide +kernel
theorem dX1_addSolution_66 : decode cX1_addSolution 66 = .ok (.aload_n 0, 1) := by decide +kernel
theorem dX1_addSolution_67 : decode cX1_addSolution 67 = .ok (.getfield 40, 3) := by decide +kernel
theorem dX1_addSolution_70 : decode cX1_addSolution 70 = .ok (.if_icmp .ne 52, 3) := by decide +kernel
theorem dX1_addSolution_73 : decode cX1_addSolution 73 = .ok (.aload_n 0, 1) := by decide +kernel
theorem dX1_addSolution_74 : decode cX1_addSolution 74 = .ok (.dup, 1) := by decide +kernel
theorem dX1_addSolution_75 : decode cX1_addSolution 75 = .ok (.getfield 43, 3) := by decide +kernel
theorem dX1_addSolution_78 : decode cX1_addSolution 78 = .ok (.aload_n 0, 1) := by decide +kernel
theorem dX1_addSolution_79 : decode cX1_addSolution 79 = .ok (.getfield 20, 3) := by decide +kernel
theorem dX1_addSolution_82 : decode cX1_addSolution 82 = .ok (.iconst 0, 1) := by decide +kernel
theorem dX1_addSolution_83 : decode cX1_addSolution 83 = .ok (.aaload, 1) := by decide +kernel
theorem dX1_addSolution_84 : decode cX1_addSolution 84 = .ok (.getfield 100, 3) := by decide +kernel
theorem dX1_addSolution_87 : decode cX1_addSolution 87 = .ok (.iload_n 1, 1) := by decide +kernel
theorem dX1_addSolution_88 : decode cX1_addSolution 88 = .ok (.iaload, 1) := by decide +kernel
theorem dX1_addSolution_89 : decode cX1_addSolution 89 = .ok (.aload_n 0, 1) := by decide +kernel
theorem dX1_addSolution_90 : decode cX1_addSolution 90 = .ok (.getfield 20, 3) := by decide +kernel
theorem dX1_addSolution_93 : decode cX1_addSolution 93 = .ok (.iconst 1, 1) := by decide +kernel
theorem dX1_addSolution_94 : decode cX1_addSolution 94 = .ok (.aaload, 1) := by decide +kernel
theorem dX1_addSolution_95 : decode cX1_addSolution 95 = .ok (.getfield 100, 3) := by decide +kernel
theorem dX1_addSolution_98 : decode cX1_addSolution 98 = .ok (.iload_n 2, 1) := by decide +kernel
theorem dX1_addSolution_99 : decode cX1_addSolution 99 = .ok (.iaload, 1) := by decide +kernel
theorem dX1_addSolution_100 : decode cX1_addSolution 100 = .ok (.iconst 4, 1) := by decide +kernel
theorem dX1_addSolution_101 : decode cX1_addSolution 101 = .ok (.ishl, 1) := by decide +kernel
theorem dX1_addSolution_102 : decode cX1_addSolution 102 = .ok (.ior, 1) := by decide +kernel
theorem dX1_addSolution_103 : decode cX1_addSolution 103 = .ok (.aload_n 0, 1) := by decide +kernel
theorem dX1_addSolution_104 : decode cX1_addSolution 104 = .ok (.getfield 20, 3) := by decide +kernel
theorem dX1_addSolution_107 : decode cX1_addSolution 107 = .ok (.iconst 2, 1) := by decide +kernel
theorem dX1_addSolution_108 : decode cX1_addSolution 108 = .ok (.aaload, 1) := by decide +kernel
theorem dX1_addSolution_109 : decode cX1_addSolution 109 = .ok (.getfield 100, 3) := by decide +kernel
theorem dX1_addSolution_112 : decode cX1_addSolution 112 = .ok (.iload_n 3, 1) := by decide +kernel
theorem dX1_addSolution_113 : decode cX1_addSolution 113 = .ok (.iaload, 1) := by decide +kernel
theorem dX1_addSolution_114 : decode cX1_addSolution 114 = .ok (.bipush 8, 2) := by decide +kernel
theorem dX1_addSolution_116 : decode cX1_addSolution 116 = .ok (.ishl, 1) := by decide +kernel
theorem dX1_addSolution_117 : decode cX1_addSolution 117 = .ok (.ior, 1) := by decide +kernel
theorem dX1_addSolution_118 : decode cX1_addSolution 118 = .ok (.ior, 1) := by decide +kernel
theorem dX1_addSolution_119 : decode cX1_addSolution 119 = .ok (.putfield 43, 3) := by decide +kernel
theorem dX1_addSolution_122 : decode cX1_addSolution 122 = .ok (.aload_n 0, 1) := by decide +kernel
theorem dX1_addSolution_123 : decode cX1_addSolution 123 = .ok (.dup, 1) := by decide +kernel
theorem dX1_addSolution_124 : decode cX1_addSolution 124 = .ok (.getfield 36, 3) := by decide +kernel
theorem dX1_addSolution_127 : decode cX1_addSolution 127 = .ok (.iconst 1, 1) := by decide +kernel
theorem dX1_addSolution_128 : decode cX1_addSolution 128 = .ok (.iadd, 1) := by decide +kernel
theorem dX1_addSolution_129 : decode cX1_addSolution 129 = .ok (.putfield 36, 3) := by decide +kernel
theorem dX1_addSolution_132 : decode cX1_addSolution 132 = .ok (.return_, 1) := by decide +kernel
set_option maxRecDepth 20000 in
theorem ggX1_firstTurn_J6_numberOfTrailingZeros_0f7a4 : GoodIn wsX1_firstTurn wsJ6_numberOfTrailingZeros_0f7a4 := goodIn_r _ [5, 6] (by decide +kernel) (by decide +kernel)
set_option maxRecDepth 20000 in
theorem gX1_firstTurn_J6_numberOfTrailingZeros_0f7a4 : GoodIn wsX1_firstTurn (va_wsS RX1 102 yJ6_numberOfTrailingZeros_0f7a4 wsJ6_numberOfTrailingZeros_0f7a4) := goodIn_app (goodIn_of _ (by decide +kernel)) ggX1_firstTurn_J6_numberOfTrailingZeros_0f7a4
theorem dX1_firstTurn_0 : decode cX1_firstTurn 0 = .ok (.aload_n 0, 1) := by decide +kernel
theorem dX1_firstTurn_1 : decode cX1_firstTurn 1 = .ok (.getfield 43, 3) := by decide +kernel
theorem dX1_firstTurn_4 : decode cX1_firstTurn 4 = .ok (.ifCond .ne 5, 3) := by decide +kernel
theorem dX1_firstTurn_7 : decode cX1_firstTurn 7 = .ok (.iconst (-1), 1) := by decide +kernel
theorem dX1_firstTurn_8 : decode cX1_firstTurn 8 = .ok (.ireturn, 1) := by decide +kernel
theorem dX1_firstTurn_9 : decode cX1_firstTurn 9 = .ok (.aload_n 0, 1) := by decide +kernel
theorem dX1_firstTurn_10 : decode cX1_firstTurn 10 = .ok (.getfield 43, 3) := by decide +kernel
theorem dX1_firstTurn_13 : decode cX1_firstTurn 13 = .ok (.invokestatic 102, 3) := by decide +kernel
theorem dX1_firstTurn_16 : decode cX1_firstTurn 16 = .ok (.istore_n 1, 1) := by decide +kernel
theorem dX1_firstTurn_17 : decode cX1_firstTurn 17 = .ok (.bipush 10, 2) := by decide +kernel
theorem dX1_firstTurn_19 : decode cX1_firstTurn 19 = .ok (.iload_n 1, 1) := by decide +kernel
theorem dX1_firstTurn_20 : decode cX1_firstTurn 20 = .ok (.iconst 4, 1) := by decide +kernel
theorem dX1_firstTurn_21 : decode cX1_firstTurn 21 = .ok (.idiv, 1) := by decide +kernel
theorem dX1_firstTurn_22 : decode cX1_firstTurn 22 = .ok (.imul, 1) := by decide +kernel
theorem dX1_firstTurn_23 : decode cX1_firstTurn 23 = .ok (.iload_n 1, 1) := by decide +kernel
theorem dX1_firstTurn_24 : decode cX1_firstTurn 24 = .ok (.iconst 4, 1) := by decide +kernel
theorem dX1_firstTurn_25 : decode cX1_firstTurn 25 = .ok (.irem, 1) := by decide +kernel
theorem dX1_firstTurn_26 : decode cX1_firstTurn 26 = .ok (.iadd, 1) := by decide +kernel
theorem dX1_firstTurn_27 : decode cX1_firstTurn 27 = .ok (.ireturn, 1) := by decide +kernel
theorem dX1_allWays_0 : decode cX1_allWays 0 = .ok (.aload_n 0, 1) := by decide +kernel
theorem dX1_allWays_1 : decode cX1_allWays 1 = .ok (.getfield 20, 3) := by decide +kernel
theorem dX1_allWays_4 : decode cX1_allWays 4 = .ok (.iconst 0, 1) := by decide +kernel
theorem dX1_allWays_5 : decode cX1_allWays 5 = .ok (.aaload, 1) := by decide +kernel
theorem dX1_allWays_6 : decode cX1_allWays 6 = .ok (.getfield 52, 3) := by decide +kernel
theorem dX1_allWays_9 : decode cX1_allWays 9 = .ok (.aload_n 0, 1) := by decide +kernel
theorem dX1_allWays_10 : decode cX1_allWays 10 = .ok (.getfield 20, 3) := by decide +kernel
theorem dX1_allWays_13 : decode cX1_allWays 13 = .ok (.iconst 1, 1) := by decide +kernel
theorem dX1_allWays_14 : decode cX1_allWays 14 = .ok (.aaload, 1) := by decide +kernel
theorem dX1_allWays_15 : decode cX1_allWays 15 = .ok (.getfield 52, 3) := by decide +kernel
theorem dX1_allWays_18 : decode cX1_allWays 18 = .ok (.imul, 1) := by decide +kernel
theorem dX1_allWays_19 : decode cX1_allWays 19 = .ok (.aload_n 0, 1) := by decide +kernel
theorem dX1_allWays_20 : decode cX1_allWays 20 = .ok (.getfield 20, 3) := by decide +kernel
theorem dX1_allWays_23 : decode cX1_allWays 23 = .ok (.iconst 2, 1) := by decide +kernel
theorem dX1_allWays_24 : decode cX1_allWays 24 = .ok (.aaload, 1) := by decide +kernel
theorem dX1_allWays_25 : decode cX1_allWays 25 = .ok (.getfield 52, 3) := by decide +kernel
theorem dX1_allWays_28 : decode cX1_allWays 28 = .ok (.imul, 1) := by decide +kernel
theorem dX1_allWays_29 : decode cX1_allWays 29 = .ok (.ireturn, 1) := by decide +kernel
set_option maxRecDepth 20000 in
theorem ggX1_sideToPaint_X1_pairOthers : GoodIn wsX1_sideToPaint wsX1_pairOthers := goodIn_r _ [5, 6, 7, 8, 9, 10, 30, 31, 32, 33, 34, 35, 36, 37, 38, 39, 40, 41, 42] (by decide +kernel) (by decide +kernel)
set_option maxRecDepth 20000 in
theorem gX1_sideToPaint_X1_pairOthers : GoodIn wsX1_sideToPaint (wsV RX1 105 RX1 yX1_pairOthers wsX1_pairOthers) := goodIn_app (goodIn_of _ (by decide +kernel)) ggX1_sideToPaint_X1_pairOthers
set_option maxRecDepth 20000 in
theorem ggX1_sideToPaint_X1_helpfulColours : GoodIn wsX1_sideToPaint wsX1_helpfulColours := goodIn_r _ [14, 7, 8, 9, 15, 16, 17, 18, 19, 20, 21, 22, 23, 4, 24, 6, 10, 30, 31, 32, 33, 34, 35, 36, 37, 38, 39, 40, 41, 42] (by decide +kernel) (by decide +kernel)
set_option maxRecDepth 20000 in
theorem gX1_sideToPaint_X1_helpfulColours : GoodIn wsX1_sideToPaint (wsV RX1 108 RX1 yX1_helpfulColours wsX1_helpfulColours) := goodIn_app (goodIn_of _ (by decide +kernel)) ggX1_sideToPaint_X1_helpfulColours
set_option maxRecDepth 20000 in
theorem ggX1_sideToPaint_J6_numberOfTrailingZeros_0f7a4 : GoodIn wsX1_sideToPaint wsJ6_numberOfTrailingZeros_0f7a4 := goodIn_r _ [28, 29] (by decide +kernel) (by decide +kernel)
set_option maxRecDepth 20000 in
theorem gX1_sideToPaint_J6_numberOfTrailingZeros_0f7a4 : GoodIn wsX1_sideToPaint (va_wsS RX1 102 yJ6_numberOfTrailingZeros_0f7a4 wsJ6_numberOfTrailingZeros_0f7a4) := goodIn_app (goodIn_of _ (by decide +kernel)) ggX1_sideToPaint_J6_numberOfTrailingZeros_0f7a4
theorem dX1_sideToPaint_0 : decode cX1_sideToPaint 0 = .ok (.iconst 0, 1) := by decide +kernel
theorem dX1_sideToPaint_1 : decode cX1_sideToPaint 1 = .ok (.istore_n 2, 1) := by decide +kernel
theorem dX1_sideToPaint_2 : decode cX1_sideToPaint 2 = .ok (.iload_n 2, 1) := by decide +kernel
theorem dX1_sideToPaint_3 : decode cX1_sideToPaint 3 = .ok (.iload_n 1, 1) := by decide +kernel
theorem dX1_sideToPaint_4 : decode cX1_sideToPaint 4 = .ok (.if_icmp .ge 62, 3) := by decide +kernel
theorem dX1_sideToPaint_7 : decode cX1_sideToPaint 7 = .ok (.iload_n 2, 1) := by decide +kernel
theorem dX1_sideToPaint_8 : decode cX1_sideToPaint 8 = .ok (.iconst 3, 1) := by decide +kernel
theorem dX1_sideToPaint_9 : decode cX1_sideToPaint 9 = .ok (.if_icmp .ge 57, 3) := by decide +kernel
theorem dX1_sideToPaint_12 : decode cX1_sideToPaint 12 = .ok (.aload_n 0, 1) := by decide +kernel
theorem dX1_sideToPaint_13 : decode cX1_sideToPaint 13 = .ok (.iload_n 2, 1) := by decide +kernel
theorem dX1_sideToPaint_14 : decode cX1_sideToPaint 14 = .ok (.invokevirtual 105, 3) := by decide +kernel
theorem dX1_sideToPaint_17 : decode cX1_sideToPaint 17 = .ok (.iconst 0, 1) := by decide +kernel
theorem dX1_sideToPaint_18 : decode cX1_sideToPaint 18 = .ok (.istore_n 3, 1) := by decide +kernel
theorem dX1_sideToPaint_19 : decode cX1_sideToPaint 19 = .ok (.iload_n 3, 1) := by decide +kernel
theorem dX1_sideToPaint_20 : decode cX1_sideToPaint 20 = .ok (.bipush 6, 2) := by decide +kernel
theorem dX1_sideToPaint_22 : decode cX1_sideToPaint 22 = .ok (.if_icmp .ge 38, 3) := by decide +kernel
theorem dX1_sideToPaint_25 : decode cX1_sideToPaint 25 = .ok (.aload_n 0, 1) := by decide +kernel
theorem dX1_sideToPaint_26 : decode cX1_sideToPaint 26 = .ok (.iload_n 2, 1) := by decide +kernel
theorem dX1_sideToPaint_27 : decode cX1_sideToPaint 27 = .ok (.iload_n 3, 1) := by decide +kernel
theorem dX1_sideToPaint_28 : decode cX1_sideToPaint 28 = .ok (.invokevirtual 108, 3) := by decide +kernel
theorem dX1_sideToPaint_31 : decode cX1_sideToPaint 31 = .ok (.istore 4, 2) := by decide +kernel
theorem dX1_sideToPaint_33 : decode cX1_sideToPaint 33 = .ok (.iload 4, 2) := by decide +kernel
theorem dX1_sideToPaint_35 : decode cX1_sideToPaint 35 = .ok (.ifCond .eq 19, 3) := by decide +kernel
theorem dX1_sideToPaint_38 : decode cX1_sideToPaint 38 = .ok (.bipush 100, 2) := by decide +kernel
theorem dX1_sideToPaint_40 : decode cX1_sideToPaint 40 = .ok (.iload_n 2, 1) := by decide +kernel
theorem dX1_sideToPaint_41 : decode cX1_sideToPaint 41 = .ok (.imul, 1) := by decide +kernel
theorem dX1_sideToPaint_42 : decode cX1_sideToPaint 42 = .ok (.bipush 10, 2) := by decide +kernel
theorem dX1_sideToPaint_44 : decode cX1_sideToPaint 44 = .ok (.iload_n 3, 1) := by decide +kernel
theorem dX1_sideToPaint_45 : decode cX1_sideToPaint 45 = .ok (.imul, 1) := by decide +kernel
theorem dX1_sideToPaint_46 : decode cX1_sideToPaint 46 = .ok (.iadd, 1) := by decide +kernel
theorem dX1_sideToPaint_47 : decode cX1_sideToPaint 47 = .ok (.iload 4, 2) := by decide +kernel
theorem dX1_sideToPaint_49 : decode cX1_sideToPaint 49 = .ok (.invokestatic 102, 3) := by decide +kernel
theorem dX1_sideToPaint_52 : decode cX1_sideToPaint 52 = .ok (.iadd, 1) := by decide +kernel
theorem dX1_sideToPaint_53 : decode cX1_sideToPaint 53 = .ok (.ireturn, 1) := by decide +kernel
theorem dX1_sideToPaint_54 : decode cX1_sideToPaint 54 = .ok (.iinc 3 1, 3) := by decide +kernel
theorem dX1_sideToPaint_57 : decode cX1_sideToPaint 57 = .ok (.goto (-38), 3) := by decide +kernel
theorem dX1_sideToPaint_60 : decode cX1_sideToPaint 60 = .ok (.iinc 2 1, 3) := by decide +kernel
theorem dX1_sideToPaint_63 : decode cX1_sideToPaint 63 = .ok (.goto (-61), 3) := by decide +kernel
theorem dX1_sideToPaint_66 : decode cX1_sideToPaint 66 = .ok (.iconst (-1), 1) := by decide +kernel
theorem dX1_sideToPaint_67 : decode cX1_sideToPaint 67 = .ok (.ireturn, 1) := by decide +kernel
theorem dX1_pairOthers_0 : decode cX1_pairOthers 0 = .ok (.iload_n 1, 1) := by decide +kernel
theorem dX1_pairOthers_1 : decode cX1_pairOthers 1 = .ok (.iconst 1, 1) := by decide +kernel
theorem dX1_pairOthers_2 : decode cX1_pairOthers 2 = .ok (.iadd, 1) := by decide +kernel
theorem dX1_pairOthers_3 : decode cX1_pairOthers 3 = .ok (.iconst 3, 1) := by decide +kernel
theorem dX1_pairOthers_4 : decode cX1_pairOthers 4 = .ok (.irem, 1) := by decide +kernel
theorem dX1_pairOthers_5 : decode cX1_pairOthers 5 = .ok (.istore_n 2, 1) := by decide +kernel
theorem dX1_pairOthers_6 : decode cX1_pairOthers 6 = .ok (.iload_n 1, 1) := by decide +kernel
theorem dX1_pairOthers_7 : decode cX1_pairOthers 7 = .ok (.iconst 2, 1) := by decide +kernel
theorem dX1_pairOthers_8 : decode cX1_pairOthers 8 = .ok (.iadd, 1) := by decide +kernel
theorem dX1_pairOthers_9 : decode cX1_pairOthers 9 = .ok (.iconst 3, 1) := by decide +kernel
theorem dX1_pairOthers_10 : decode cX1_pairOthers 10 = .ok (.irem, 1) := by decide +kernel
theorem dX1_pairOthers_11 : decode cX1_pairOthers 11 = .ok (.istore_n 3, 1) := by decide +kernel
theorem dX1_pairOthers_12 : decode cX1_pairOthers 12 = .ok (.aload_n 0, 1) := by decide +kernel
theorem dX1_pairOthers_13 : decode cX1_pairOthers 13 = .ok (.iconst 0, 1) := by decide +kernel
theorem dX1_pairOthers_14 : decode cX1_pairOthers 14 = .ok (.putfield 111, 3) := by decide +kernel
theorem dX1_pairOthers_17 : decode cX1_pairOthers 17 = .ok (.iconst 0, 1) := by decide +kernel
theorem dX1_pairOthers_18 : decode cX1_pairOthers 18 = .ok (.istore 4, 2) := by decide +kernel
theorem dX1_pairOthers_20 : decode cX1_pairOthers 20 = .ok (.iload 4, 2) := by decide +kernel
theorem dX1_pairOthers_22 : decode cX1_pairOthers 22 = .ok (.aload_n 0, 1) := by decide +kernel
theorem dX1_pairOthers_23 : decode cX1_pairOthers 23 = .ok (.getfield 20, 3) := by decide +kernel
theorem dX1_pairOthers_26 : decode cX1_pairOthers 26 = .ok (.iload_n 2, 1) := by decide +kernel
theorem dX1_pairOthers_27 : decode cX1_pairOthers 27 = .ok (.aaload, 1) := by decide +kernel
theorem dX1_pairOthers_28 : decode cX1_pairOthers 28 = .ok (.getfield 52, 3) := by decide +kernel
theorem dX1_pairOthers_31 : decode cX1_pairOthers 31 = .ok (.if_icmp .ge 98, 3) := by decide +kernel
theorem dX1_pairOthers_34 : decode cX1_pairOthers 34 = .ok (.iconst 0, 1) := by decide +kernel
theorem dX1_pairOthers_35 : decode cX1_pairOthers 35 = .ok (.istore 5, 2) := by decide +kernel
theorem dX1_pairOthers_37 : decode cX1_pairOthers 37 = .ok (.iload 5, 2) := by decide +kernel
theorem dX1_pairOthers_39 : decode cX1_pairOthers 39 = .ok (.aload_n 0, 1) := by decide +kernel
theorem dX1_pairOthers_40 : decode cX1_pairOthers 40 = .ok (.getfield 20, 3) := by decide +kernel
theorem dX1_pairOthers_43 : decode cX1_pairOthers 43 = .ok (.iload_n 3, 1) := by decide +kernel
theorem dX1_pairOthers_44 : decode cX1_pairOthers 44 = .ok (.aaload, 1) := by decide +kernel
theorem dX1_pairOthers_45 : decode cX1_pairOthers 45 = .ok (.getfield 52, 3) := by decide +kernel
theorem dX1_pairOthers_48 : decode cX1_pairOthers 48 = .ok (.if_icmp .ge 75, 3) := by decide +kernel
theorem dX1_pairOthers_51 : decode cX1_pairOthers 51 = .ok (.aload_n 0, 1) := by decide +kernel
theorem dX1_pairOthers_52 : decode cX1_pairOthers 52 = .ok (.getfield 25, 3) := by decide +kernel
theorem dX1_pairOthers_55 : decode cX1_pairOthers 55 = .ok (.iload_n 2, 1) := by decide +kernel
theorem dX1_pairOthers_56 : decode cX1_pairOthers 56 = .ok (.aaload, 1) := by decide +kernel
theorem dX1_pairOthers_57 : decode cX1_pairOthers 57 = .ok (.iload 4, 2) := by decide +kernel
theorem dX1_pairOthers_59 : decode cX1_pairOthers 59 = .ok (.iaload, 1) := by decide +kernel
theorem dX1_pairOthers_60 : decode cX1_pairOthers 60 = .ok (.istore 6, 2) := by decide +kernel
theorem dX1_pairOthers_62 : decode cX1_pairOthers 62 = .ok (.aload_n 0, 1) := by decide +kernel
theorem dX1_pairOthers_63 : decode cX1_pairOthers 63 = .ok (.getfield 25, 3) := by decide +kernel
theorem dX1_pairOthers_66 : decode cX1_pairOthers 66 = .ok (.iload_n 3, 1) := by decide +kernel
theorem dX1_pairOthers_67 : decode cX1_pairOthers 67 = .ok (.aaload, 1) := by decide +kernel
theorem dX1_pairOthers_68 : decode cX1_pairOthers 68 = .ok (.iload 5, 2) := by decide +kernel
theorem dX1_pairOthers_70 : decode cX1_pairOthers 70 = .ok (.iaload, 1) := by decide +kernel
theorem dX1_pairOthers_71 : decode cX1_pairOthers 71 = .ok (.istore 7, 2) := by decide +kernel
theorem dX1_pairOthers_73 : decode cX1_pairOthers 73 = .ok (.iload 6, 2) := by decide +kernel
theorem dX1_pairOthers_75 : decode cX1_pairOthers 75 = .ok (.iload 7, 2) := by decide +kernel
theorem dX1_pairOthers_77 : decode cX1_pairOthers 77 = .ok (.iand, 1) := by decide +kernel
theorem dX1_pairOthers_78 : decode cX1_pairOthers 78 = .ok (.ifCond .ne 39, 3) := by decide +kernel
theorem dX1_pairOthers_81 : decode cX1_pairOthers 81 = .ok (.aload_n 0, 1) := by decide +kernel
theorem dX1_pairOthers_82 : decode cX1_pairOthers 82 = .ok (.getfield 111, 3) := by decide +kernel
theorem dX1_pairOthers_85 : decode cX1_pairOthers 85 = .ok (.aload_n 0, 1) := by decide +kernel
theorem dX1_pairOthers_86 : decode cX1_pairOthers 86 = .ok (.getfield 28, 3) := by decide +kernel
theorem dX1_pairOthers_89 : decode cX1_pairOthers 89 = .ok (.arraylength, 1) := by decide +kernel
theorem dX1_pairOthers_90 : decode cX1_pairOthers 90 = .ok (.if_icmp .ge 27, 3) := by decide +kernel
theorem dX1_pairOthers_93 : decode cX1_pairOthers 93 = .ok (.aload_n 0, 1) := by decide +kernel
theorem dX1_pairOthers_94 : decode cX1_pairOthers 94 = .ok (.getfield 28, 3) := by decide +kernel
theorem dX1_pairOthers_97 : decode cX1_pairOthers 97 = .ok (.aload_n 0, 1) := by decide +kernel
theorem dX1_pairOthers_98 : decode cX1_pairOthers 98 = .ok (.getfield 111, 3) := by decide +kernel
theorem dX1_pairOthers_101 : decode cX1_pairOthers 101 = .ok (.iload 6, 2) := by decide +kernel
theorem dX1_pairOthers_103 : decode cX1_pairOthers 103 = .ok (.iload 7, 2) := by decide +kernel
theorem dX1_pairOthers_105 : decode cX1_pairOthers 105 = .ok (.ior, 1) := by decide +kernel
theorem dX1_pairOthers_106 : decode cX1_pairOthers 106 = .ok (.iastore, 1) := by decide +kernel
theorem dX1_pairOthers_107 : decode cX1_pairOthers 107 = .ok (.aload_n 0, 1) := by decide +kernel
theorem dX1_pairOthers_108 : decode cX1_pairOthers 108 = .ok (.dup, 1) := by decide +kernel
theorem dX1_pairOthers_109 : decode cX1_pairOthers 109 = .ok (.getfield 111, 3) := by decide +kernel
theorem dX1_pairOthers_112 : decode cX1_pairOthers 112 = .ok (.iconst 1, 1) := by decide +kernel
theorem dX1_pairOthers_113 : decode cX1_pairOthers 113 = .ok (.iadd, 1) := by decide +kernel
theorem dX1_pairOthers_114 : decode cX1_pairOthers 114 = .ok (.putfield 111, 3) := by decide +kernel
theorem dX1_pairOthers_117 : decode cX1_pairOthers 117 = .ok (.iinc 5 1, 3) := by decide +kernel
theorem dX1_pairOthers_120 : decode cX1_pairOthers 120 = .ok (.goto (-83), 3) := by decide +kernel
theorem dX1_pairOthers_123 : decode cX1_pairOthers 123 = .ok (.iinc 4 1, 3) := by decide +kernel
theorem dX1_pairOthers_126 : decode cX1_pairOthers 126 = .ok (.goto (-106), 3) := by decide +kernel
theorem dX1_pairOthers_129 : decode cX1_pairOthers 129 = .ok (.return_, 1) := by decide +kernel
set_option maxRecDepth 20000 in
theorem ggX1_helpfulColours_X3_placeOf : GoodIn wsX1_helpfulColours wsX3_placeOf := goodIn_r _ [8, 9, 26, 27, 28, 29] (by decide +kernel) (by decide +kernel)
set_option maxRecDepth 20000 in
theorem gX1_helpfulColours_X3_placeOf : GoodIn wsX1_helpfulColours (wsV RX1 114 RX3 yX3_placeOf wsX3_placeOf) := goodIn_app (goodIn_of _ (by decide +kernel)) ggX1_helpfulColours_X3_placeOf
set_option maxRecDepth 20000 in
theorem ggX1_helpfulColours_X1_coloursFree : GoodIn wsX1_helpfulColours wsX1_coloursFree := goodIn_r _ [14, 15, 16, 17, 18, 19, 20, 21, 22, 23, 24, 25] (by decide +kernel) (by decide +kernel)
set_option maxRecDepth 20000 in
theorem gX1_helpfulColours_X1_coloursFree : GoodIn wsX1_helpfulColours (wsV RX1 117 RX1 yX1_coloursFree wsX1_coloursFree) := goodIn_app (goodIn_of _ (by decide +kernel)) ggX1_helpfulColours_X1_coloursFree
theorem dX1_helpfulColours_0 : decode cX1_helpfulColours 0 = .ok (.iconst 0, 1) := by decide +kernel
theorem dX1_helpfulColours_1 : decode cX1_helpfulColours 1 = .ok (.istore_n 3, 1) := by decide +kernel
theorem dX1_helpfulColours_2 : decode cX1_helpfulColours 2 = .ok (.iconst 0, 1) := by decide +kernel
theorem dX1_helpfulColours_3 : decode cX1_helpfulColours 3 = .ok (.istore 4, 2) := by decide +kernel
theorem dX1_helpfulColours_5 : decode cX1_helpfulColours 5 = .ok (.iload 4, 2) := by decide +kernel
theorem dX1_helpfulColours_7 : decode cX1_helpfulColours 7 = .ok (.aload_n 0, 1) := by decide +kernel
theorem dX1_helpfulColours_8 : decode cX1_helpfulColours 8 = .ok (.getfield 20, 3) := by decide +kernel
theorem dX1_helpfulColours_11 : decode cX1_helpfulColours 11 = .ok (.iload_n 1, 1) := by decide +kernel
theorem dX1_helpfulColours_12 : decode cX1_helpfulColours 12 = .ok (.aaload, 1) := by decide +kernel
theorem dX1_helpfulColours_13 : decode cX1_helpfulColours 13 = .ok (.getfield 52, 3) := by decide +kernel
theorem dX1_helpfulColours_16 : decode cX1_helpfulColours 16 = .ok (.if_icmp .ge 51, 3) := by decide +kernel
theorem dX1_helpfulColours_19 : decode cX1_helpfulColours 19 = .ok (.aload_n 0, 1) := by decide +kernel
theorem dX1_helpfulColours_20 : decode cX1_helpfulColours 20 = .ok (.getfield 20, 3) := by decide +kernel
theorem dX1_helpfulColours_23 : decode cX1_helpfulColours 23 = .ok (.iload_n 1, 1) := by decide +kernel
theorem dX1_helpfulColours_24 : decode cX1_helpfulColours 24 = .ok (.aaload, 1) := by decide +kernel
theorem dX1_helpfulColours_25 : decode cX1_helpfulColours 25 = .ok (.iload_n 2, 1) := by decide +kernel
theorem dX1_helpfulColours_26 : decode cX1_helpfulColours 26 = .ok (.iload 4, 2) := by decide +kernel
theorem dX1_helpfulColours_28 : decode cX1_helpfulColours 28 = .ok (.invokevirtual 114, 3) := by decide +kernel
theorem dX1_helpfulColours_31 : decode cX1_helpfulColours 31 = .ok (.iconst 2, 1) := by decide +kernel
theorem dX1_helpfulColours_32 : decode cX1_helpfulColours 32 = .ok (.isub, 1) := by decide +kernel
theorem dX1_helpfulColours_33 : decode cX1_helpfulColours 33 = .ok (.istore 5, 2) := by decide +kernel
theorem dX1_helpfulColours_35 : decode cX1_helpfulColours 35 = .ok (.iload 5, 2) := by decide +kernel
theorem dX1_helpfulColours_37 : decode cX1_helpfulColours 37 = .ok (.ifCond .lt 24, 3) := by decide +kernel
theorem dX1_helpfulColours_40 : decode cX1_helpfulColours 40 = .ok (.iload_n 3, 1) := by decide +kernel
theorem dX1_helpfulColours_41 : decode cX1_helpfulColours 41 = .ok (.aload_n 0, 1) := by decide +kernel
theorem dX1_helpfulColours_42 : decode cX1_helpfulColours 42 = .ok (.aload_n 0, 1) := by decide +kernel
theorem dX1_helpfulColours_43 : decode cX1_helpfulColours 43 = .ok (.getfield 25, 3) := by decide +kernel
theorem dX1_helpfulColours_46 : decode cX1_helpfulColours 46 = .ok (.iload_n 1, 1) := by decide +kernel
theorem dX1_helpfulColours_47 : decode cX1_helpfulColours 47 = .ok (.aaload, 1) := by decide +kernel
theorem dX1_helpfulColours_48 : decode cX1_helpfulColours 48 = .ok (.iload 4, 2) := by decide +kernel
theorem dX1_helpfulColours_50 : decode cX1_helpfulColours 50 = .ok (.iaload, 1) := by decide +kernel
theorem dX1_helpfulColours_51 : decode cX1_helpfulColours 51 = .ok (.iload 5, 2) := by decide +kernel
theorem dX1_helpfulColours_53 : decode cX1_helpfulColours 53 = .ok (.bipush 6, 2) := by decide +kernel
theorem dX1_helpfulColours_55 : decode cX1_helpfulColours 55 = .ok (.imul, 1) := by decide +kernel
theorem dX1_helpfulColours_56 : decode cX1_helpfulColours 56 = .ok (.invokevirtual 117, 3) := by decide +kernel
theorem dX1_helpfulColours_59 : decode cX1_helpfulColours 59 = .ok (.ior, 1) := by decide +kernel
theorem dX1_helpfulColours_60 : decode cX1_helpfulColours 60 = .ok (.istore_n 3, 1) := by decide +kernel
theorem dX1_helpfulColours_61 : decode cX1_helpfulColours 61 = .ok (.iinc 4 1, 3) := by decide +kernel
theorem dX1_helpfulColours_64 : decode cX1_helpfulColours 64 = .ok (.goto (-59), 3) := by decide +kernel
theorem dX1_helpfulColours_67 : decode cX1_helpfulColours 67 = .ok (.iload_n 3, 1) := by decide +kernel
theorem dX1_helpfulColours_68 : decode cX1_helpfulColours 68 = .ok (.ireturn, 1) := by decide +kernel
theorem dX1_coloursFree_0 : decode cX1_coloursFree 0 = .ok (.iload_n 1, 1) := by decide +kernel
theorem dX1_coloursFree_1 : decode cX1_coloursFree 1 = .ok (.bipush 63, 2) := by decide +kernel
theorem dX1_coloursFree_3 : decode cX1_coloursFree 3 = .ok (.iload_n 2, 1) := by decide +kernel
theorem dX1_coloursFree_4 : decode cX1_coloursFree 4 = .ok (.ishl, 1) := by decide +kernel
theorem dX1_coloursFree_5 : decode cX1_coloursFree 5 = .ok (.iconst (-1), 1) := by decide +kernel
theorem dX1_coloursFree_6 : decode cX1_coloursFree 6 = .ok (.ixor, 1) := by decide +kernel
theorem dX1_coloursFree_7 : decode cX1_coloursFree 7 = .ok (.iand, 1) := by decide +kernel
theorem dX1_coloursFree_8 : decode cX1_coloursFree 8 = .ok (.istore_n 3, 1) := by decide +kernel
theorem dX1_coloursFree_9 : decode cX1_coloursFree 9 = .ok (.iconst 0, 1) := by decide +kernel
theorem dX1_coloursFree_10 : decode cX1_coloursFree 10 = .ok (.istore 4, 2) := by decide +kernel
theorem dX1_coloursFree_12 : decode cX1_coloursFree 12 = .ok (.iconst 0, 1) := by decide +kernel
theorem dX1_coloursFree_13 : decode cX1_coloursFree 13 = .ok (.istore 5, 2) := by decide +kernel
theorem dX1_coloursFree_15 : decode cX1_coloursFree 15 = .ok (.iload 5, 2) := by decide +kernel
theorem dX1_coloursFree_17 : decode cX1_coloursFree 17 = .ok (.aload_n 0, 1) := by decide +kernel
theorem dX1_coloursFree_18 : decode cX1_coloursFree 18 = .ok (.getfield 111, 3) := by decide +kernel
theorem dX1_coloursFree_21 : decode cX1_coloursFree 21 = .ok (.if_icmp .ge 40, 3) := by decide +kernel
theorem dX1_coloursFree_24 : decode cX1_coloursFree 24 = .ok (.aload_n 0, 1) := by decide +kernel
theorem dX1_coloursFree_25 : decode cX1_coloursFree 25 = .ok (.getfield 28, 3) := by decide +kernel
theorem dX1_coloursFree_28 : decode cX1_coloursFree 28 = .ok (.iload 5, 2) := by decide +kernel
theorem dX1_coloursFree_30 : decode cX1_coloursFree 30 = .ok (.iaload, 1) := by decide +kernel
theorem dX1_coloursFree_31 : decode cX1_coloursFree 31 = .ok (.iload_n 3, 1) := by decide +kernel
theorem dX1_coloursFree_32 : decode cX1_coloursFree 32 = .ok (.iand, 1) := by decide +kernel
theorem dX1_coloursFree_33 : decode cX1_coloursFree 33 = .ok (.ifCond .ne 22, 3) := by decide +kernel
theorem dX1_coloursFree_36 : decode cX1_coloursFree 36 = .ok (.iload 4, 2) := by decide +kernel
theorem dX1_coloursFree_38 : decode cX1_coloursFree 38 = .ok (.aload_n 0, 1) := by decide +kernel
theorem dX1_coloursFree_39 : decode cX1_coloursFree 39 = .ok (.getfield 28, 3) := by decide +kernel
theorem dX1_coloursFree_42 : decode cX1_coloursFree 42 = .ok (.iload 5, 2) := by decide +kernel
theorem dX1_coloursFree_44 : decode cX1_coloursFree 44 = .ok (.iaload, 1) := by decide +kernel
theorem dX1_coloursFree_45 : decode cX1_coloursFree 45 = .ok (.iload_n 2, 1) := by decide +kernel
theorem dX1_coloursFree_46 : decode cX1_coloursFree 46 = .ok (.ishr, 1) := by decide +kernel
theorem dX1_coloursFree_47 : decode cX1_coloursFree 47 = .ok (.iconst (-1), 1) := by decide +kernel
theorem dX1_coloursFree_48 : decode cX1_coloursFree 48 = .ok (.ixor, 1) := by decide +kernel
theorem dX1_coloursFree_49 : decode cX1_coloursFree 49 = .ok (.bipush 63, 2) := by decide +kernel
theorem dX1_coloursFree_51 : decode cX1_coloursFree 51 = .ok (.iand, 1) := by decide +kernel
theorem dX1_coloursFree_52 : decode cX1_coloursFree 52 = .ok (.ior, 1) := by decide +kernel
theorem dX1_coloursFree_53 : decode cX1_coloursFree 53 = .ok (.istore 4, 2) := by decide +kernel
theorem dX1_coloursFree_55 : decode cX1_coloursFree 55 = .ok (.iinc 5 1, 3) := by decide +kernel
theorem dX1_coloursFree_58 : decode cX1_coloursFree 58 = .ok (.goto (-43), 3) := by decide +kernel
theorem dX1_coloursFree_61 : decode cX1_coloursFree 61 = .ok (.iload 4, 2) := by decide +kernel
theorem dX1_coloursFree_63 : decode cX1_coloursFree 63 = .ok (.ireturn, 1) := by decide +kernel
end
section
set_option maxRecDepth 20000 in
theorem ggX4_init_X2_init : GoodIn wsX4_init wsX2_init := goodIn_r _ [17, 18, 2, 3, 19, 20, 21, 22, 23, 24, 25, 26, 4, 27, 92, 93, 94, 79, 80, 81, 82] (by decide +kernel) (by decide +kernel)
set_option maxRecDepth 20000 in
theorem gX4_init_X2_init_n15 : GoodIn wsX4_init (wsX2_init) := ggX4_init_X2_init
set_option maxRecDepth 20000 in
theorem ggX4_init_X1_init : GoodIn wsX4_init wsX1_init := goodIn_r _ [29, 30, 2, 3, 31, 32, 33, 34, 35, 36, 4, 37, 38, 39, 40, 41, 42, 43, 44, 45, 46, 47, 48, 49, 50, 51, 52, 53, 54, 55, 56, 57, 58, 59, 60, 61, 62, 63, 64, 65, 66, 67, 68, 69, 95, 96, 97, 98, 83, 84, 85, 86, 87, 88, 89, 90, 91] (by decide +kernel) (by decide +kernel)
set_option maxRecDepth 20000 in
theorem gX4_init_X1_init_n28 : GoodIn wsX4_init (wsX1_init) := ggX4_init_X1_init
theorem dX4_init_0 : decode cX4_init 0 = .ok (.aload_n 0, 1) := by decide +kernel
theorem dX4_init_1 : decode cX4_init 1 = .ok (.invokespecial 3, 3) := by decide +kernel
theorem dX4_init_4 : decode cX4_init 4 = .ok (.aload_n 0, 1) := by decide +kernel
theorem dX4_init_5 : decode cX4_init 5 = .ok (.bipush 26, 2) := by decide +kernel
theorem dX4_init_7 : decode cX4_init 7 = .ok (.newarray .int, 2) := by decide +kernel
theorem dX4_init_9 : decode cX4_init 9 = .ok (.putfield 9, 3) := by decide +kernel
theorem dX4_init_12 : decode cX4_init 12 = .ok (.aload_n 0, 1) := by decide +kernel
theorem dX4_init_13 : decode cX4_init 13 = .ok (.new 13, 3) := by decide +kernel
theorem dX4_init_16 : decode cX4_init 16 = .ok (.dup, 1) := by decide +kernel
theorem dX4_init_17 : decode cX4_init 17 = .ok (.invokespecial 15, 3) := by decide +kernel
theorem dX4_init_20 : decode cX4_init 20 = .ok (.putfield 16, 3) := by decide +kernel
theorem dX4_init_23 : decode cX4_init 23 = .ok (.aload_n 0, 1) := by decide +kernel
theorem dX4_init_24 : decode cX4_init 24 = .ok (.new 13, 3) := by decide +kernel
theorem dX4_init_27 : decode cX4_init 27 = .ok (.dup, 1) := by decide +kernel
theorem dX4_init_28 : decode cX4_init 28 = .ok (.invokespecial 15, 3) := by decide +kernel
theorem dX4_init_31 : decode cX4_init 31 = .ok (.putfield 20, 3) := by decide +kernel
theorem dX4_init_34 : decode cX4_init 34 = .ok (.aload_n 0, 1) := by decide +kernel
theorem dX4_init_35 : decode cX4_init 35 = .ok (.new 13, 3) := by decide +kernel
theorem dX4_init_38 : decode cX4_init 38 = .ok (.dup, 1) := by decide +kernel
theorem dX4_init_39 : decode cX4_init 39 = .ok (.invokespecial 15, 3) := by decide +kernel
theorem dX4_init_42 : decode cX4_init 42 = .ok (.putfield 23, 3) := by decide +kernel
theorem dX4_init_45 : decode cX4_init 45 = .ok (.aload_n 0, 1) := by decide +kernel
theorem dX4_init_46 : decode cX4_init 46 = .ok (.new 26, 3) := by decide +kernel
theorem dX4_init_49 : decode cX4_init 49 = .ok (.dup, 1) := by decide +kernel
theorem dX4_init_50 : decode cX4_init 50 = .ok (.invokespecial 28, 3) := by decide +kernel
theorem dX4_init_53 : decode cX4_init 53 = .ok (.putfield 29, 3) := by decide +kernel
theorem dX4_init_56 : decode cX4_init 56 = .ok (.return_, 1) := by decide +kernel
theorem dX4_letter_0 : decode cX4_letter 0 = .ok (.iload_n 1, 1) := by decide +kernel
theorem dX4_letter_1 : decode cX4_letter 1 = .ok (.bipush 32, 2) := by decide +kernel
theorem dX4_letter_3 : decode cX4_letter 3 = .ok (.if_icmp .lt 9, 3) := by decide +kernel
theorem dX4_letter_6 : decode cX4_letter 6 = .ok (.iload_n 1, 1) := by decide +kernel
theorem dX4_letter_7 : decode cX4_letter 7 = .ok (.bipush 126, 2) := by decide +kernel
theorem dX4_letter_9 : decode cX4_letter 9 = .ok (.if_icmp .le 6, 3) := by decide +kernel
theorem dX4_letter_12 : decode cX4_letter 12 = .ok (.bipush (-102), 2) := by decide +kernel
theorem dX4_letter_14 : decode cX4_letter 14 = .ok (.ireturn, 1) := by decide +kernel
theorem dX4_letter_15 : decode cX4_letter 15 = .ok (.aload_n 0, 1) := by decide +kernel
theorem dX4_letter_16 : decode cX4_letter 16 = .ok (.getfield 33, 3) := by decide +kernel
theorem dX4_letter_19 : decode cX4_letter 19 = .ok (.bipush 26, 2) := by decide +kernel
theorem dX4_letter_21 : decode cX4_letter 21 = .ok (.if_icmp .lt 6, 3) := by decide +kernel
theorem dX4_letter_24 : decode cX4_letter 24 = .ok (.bipush (-104), 2) := by decide +kernel
theorem dX4_letter_26 : decode cX4_letter 26 = .ok (.ireturn, 1) := by decide +kernel
theorem dX4_letter_27 : decode cX4_letter 27 = .ok (.aload_n 0, 1) := by decide +kernel
theorem dX4_letter_28 : decode cX4_letter 28 = .ok (.getfield 9, 3) := by decide +kernel
theorem dX4_letter_31 : decode cX4_letter 31 = .ok (.aload_n 0, 1) := by decide +kernel
theorem dX4_letter_32 : decode cX4_letter 32 = .ok (.getfield 33, 3) := by decide +kernel
theorem dX4_letter_35 : decode cX4_letter 35 = .ok (.iload_n 1, 1) := by decide +kernel
theorem dX4_letter_36 : decode cX4_letter 36 = .ok (.iastore, 1) := by decide +kernel
theorem dX4_letter_37 : decode cX4_letter 37 = .ok (.aload_n 0, 1) := by decide +kernel
theorem dX4_letter_38 : decode cX4_letter 38 = .ok (.dup, 1) := by decide +kernel
theorem dX4_letter_39 : decode cX4_letter 39 = .ok (.getfield 33, 3) := by decide +kernel
theorem dX4_letter_42 : decode cX4_letter 42 = .ok (.iconst 1, 1) := by decide +kernel
theorem dX4_letter_43 : decode cX4_letter 43 = .ok (.iadd, 1) := by decide +kernel
theorem dX4_letter_44 : decode cX4_letter 44 = .ok (.putfield 33, 3) := by decide +kernel
theorem dX4_letter_47 : decode cX4_letter 47 = .ok (.aload_n 0, 1) := by decide +kernel
theorem dX4_letter_48 : decode cX4_letter 48 = .ok (.getfield 33, 3) := by decide +kernel
theorem dX4_letter_51 : decode cX4_letter 51 = .ok (.ireturn, 1) := by decide +kernel
theorem dX4_blank_0 : decode cX4_blank 0 = .ok (.aload_n 0, 1) := by decide +kernel
theorem dX4_blank_1 : decode cX4_blank 1 = .ok (.getfield 33, 3) := by decide +kernel
theorem dX4_blank_4 : decode cX4_blank 4 = .ok (.istore_n 1, 1) := by decide +kernel
theorem dX4_blank_5 : decode cX4_blank 5 = .ok (.aload_n 0, 1) := by decide +kernel
theorem dX4_blank_6 : decode cX4_blank 6 = .ok (.iconst 0, 1) := by decide +kernel
theorem dX4_blank_7 : decode cX4_blank 7 = .ok (.putfield 33, 3) := by decide +kernel
theorem dX4_blank_10 : decode cX4_blank 10 = .ok (.iload_n 1, 1) := by decide +kernel
theorem dX4_blank_11 : decode cX4_blank 11 = .ok (.ireturn, 1) := by decide +kernel
set_option maxRecDepth 20000 in
theorem ggX4_fault_X4_fits : GoodIn wsX4_fault wsX4_fits := goodIn_r _ [6, 7, 8, 9, 10, 11, 12, 13, 14, 15, 16, 17, 18, 19, 20, 21, 22, 23, 24, 25, 26, 27, 28, 29, 30, 31, 32, 33, 34, 35, 36, 37, 38, 39, 40, 41, 42, 43, 44, 45, 46, 47, 48, 49, 50, 51, 52, 53, 54, 55, 56, 57, 58, 59, 60, 61, 62, 63, 64, 65, 66, 67, 68, 69, 70, 71, 72, 73, 74, 75, 76, 77, 78, 79, 80, 81, 82, 83, 84, 85, 86, 87, 88, 89, 90, 91, 92, 93, 94, 95] (by decide +kernel) (by decide +kernel)
set_option maxRecDepth 20000 in
theorem gX4_fault_X4_fits : GoodIn wsX4_fault (va_wsS RX4 37 yX4_fits wsX4_fits) := goodIn_app (goodIn_of _ (by decide +kernel)) ggX4_fault_X4_fits
theorem dX4_fault_0 : decode cX4_fault 0 = .ok (.iconst 0, 1) := by decide +kernel
theorem dX4_fault_1 : decode cX4_fault 1 = .ok (.istore_n 1, 1) := by decide +kernel
theorem dX4_fault_2 : decode cX4_fault 2 = .ok (.iload_n 1, 1) := by decide +kernel
theorem dX4_fault_3 : decode cX4_fault 3 = .ok (.aload_n 0, 1) := by decide +kernel
theorem dX4_fault_4 : decode cX4_fault 4 = .ok (.getfield 33, 3) := by decide +kernel
theorem dX4_fault_7 : decode cX4_fault 7 = .ok (.if_icmp .ge 22, 3) := by decide +kernel
theorem dX4_fault_10 : decode cX4_fault 10 = .ok (.aload_n 0, 1) := by decide +kernel
theorem dX4_fault_11 : decode cX4_fault 11 = .ok (.getfield 9, 3) := by decide +kernel
theorem dX4_fault_14 : decode cX4_fault 14 = .ok (.iload_n 1, 1) := by decide +kernel
theorem dX4_fault_15 : decode cX4_fault 15 = .ok (.iaload, 1) := by decide +kernel
theorem dX4_fault_16 : decode cX4_fault 16 = .ok (.iload_n 1, 1) := by decide +kernel
theorem dX4_fault_17 : decode cX4_fault 17 = .ok (.invokestatic 37, 3) := by decide +kernel
theorem dX4_fault_20 : decode cX4_fault 20 = .ok (.ifCond .eq 9, 3) := by decide +kernel
theorem dX4_fault_23 : decode cX4_fault 23 = .ok (.iinc 1 1, 3) := by decide +kernel
theorem dX4_fault_26 : decode cX4_fault 26 = .ok (.goto (-24), 3) := by decide +kernel
theorem dX4_fault_29 : decode cX4_fault 29 = .ok (.iload_n 1, 1) := by decide +kernel
theorem dX4_fault_30 : decode cX4_fault 30 = .ok (.ireturn, 1) := by decide +kernel
set_option maxRecDepth 20000 in
theorem ggX4_tower_X4_fault : GoodIn wsX4_tower wsX4_fault := goodIn_r _ [10, 1, 11, 12, 13, 9, 14, 15, 16, 17, 18, 19, 20, 21, 22, 23, 24, 25, 26, 27, 28, 29, 30, 31, 32, 33, 34, 35, 36, 37, 38, 39, 40, 41, 42, 43, 44, 45, 46, 47, 48, 49, 50, 51, 52, 53, 54, 55, 56, 57, 58, 59, 60, 61, 62, 63, 64, 65, 66, 67, 68, 69, 70, 71, 72, 73, 74, 75, 76, 77, 78, 79, 80, 81, 82, 83, 84, 85, 86, 87, 88, 89, 90, 91, 92, 93, 94, 95, 96, 97, 98, 99, 100, 101, 102, 103, 121, 122, 123, 124, 125, 126, 127, 128, 129] (by decide +kernel) (by decide +kernel)
set_option maxRecDepth 20000 in
theorem gX4_tower_X4_fault : GoodIn wsX4_tower (wsV RX4 41 RX4 yX4_fault wsX4_fault) := goodIn_app (goodIn_of _ (by decide +kernel)) ggX4_tower_X4_fault
set_option maxRecDepth 20000 in
theorem ggX4_tower_X4_readPage : GoodIn wsX4_tower wsX4_readPage := goodIn_r _ [107, 108, 4, 109, 110, 11, 111, 112, 113, 114, 115, 116, 117, 118, 119, 120, 15, 16, 17, 18, 19, 20, 21, 22, 23, 24, 25, 26, 27, 28, 29, 30, 31, 32, 33, 34, 35, 36, 37, 38, 39, 40, 41, 42, 43, 44, 45, 46, 47, 48, 49, 50, 51, 52, 53, 54, 55, 56, 57, 58, 59, 60, 61, 62, 63, 64, 65, 66, 67, 68, 69, 70, 71, 72, 73, 74, 75, 76, 77, 78, 79, 80, 81, 82, 83, 84, 85, 86, 87, 88, 89, 90, 91, 92, 93, 94, 95, 96, 97, 98, 99, 100, 101, 102, 103, 121, 122, 123, 124, 125, 126, 127, 128, 129, 130, 131, 132, 133, 134, 135, 136] (by decide +kernel) (by decide +kernel)
set_option maxRecDepth 20000 in
theorem gX4_tower_X4_readPage : GoodIn wsX4_tower (wsV RX4 45 RX4 yX4_readPage wsX4_readPage) := goodIn_app (goodIn_of _ (by decide +kernel)) ggX4_tower_X4_readPage
theorem dX4_tower_0 : decode cX4_tower 0 = .ok (.aload_n 0, 1) := by decide +kernel
theorem dX4_tower_1 : decode cX4_tower 1 = .ok (.getfield 33, 3) := by decide +kernel
theorem dX4_tower_4 : decode cX4_tower 4 = .ok (.iconst 1, 1) := by decide +kernel
theorem dX4_tower_5 : decode cX4_tower 5 = .ok (.iadd, 1) := by decide +kernel
theorem dX4_tower_6 : decode cX4_tower 6 = .ok (.bipush 8, 2) := by decide +kernel
theorem dX4_tower_8 : decode cX4_tower 8 = .ok (.idiv, 1) := by decide +kernel
theorem dX4_tower_9 : decode cX4_tower 9 = .ok (.istore_n 1, 1) := by decide +kernel
theorem dX4_tower_10 : decode cX4_tower 10 = .ok (.iload_n 1, 1) := by decide +kernel
theorem dX4_tower_11 : decode cX4_tower 11 = .ok (.iconst 2, 1) := by decide +kernel
theorem dX4_tower_12 : decode cX4_tower 12 = .ok (.if_icmp .lt 20, 3) := by decide +kernel
theorem dX4_tower_15 : decode cX4_tower 15 = .ok (.iload_n 1, 1) := by decide +kernel
theorem dX4_tower_16 : decode cX4_tower 16 = .ok (.bipush 8, 2) := by decide +kernel
theorem dX4_tower_18 : decode cX4_tower 18 = .ok (.imul, 1) := by decide +kernel
theorem dX4_tower_19 : decode cX4_tower 19 = .ok (.aload_n 0, 1) := by decide +kernel
theorem dX4_tower_20 : decode cX4_tower 20 = .ok (.getfield 33, 3) := by decide +kernel
theorem dX4_tower_23 : decode cX4_tower 23 = .ok (.iconst 1, 1) := by decide +kernel
theorem dX4_tower_24 : decode cX4_tower 24 = .ok (.iadd, 1) := by decide +kernel
theorem dX4_tower_25 : decode cX4_tower 25 = .ok (.if_icmp .ne 7, 3) := by decide +kernel
theorem dX4_tower_28 : decode cX4_tower 28 = .ok (.iconst 1, 1) := by decide +kernel
theorem dX4_tower_29 : decode cX4_tower 29 = .ok (.goto 4, 3) := by decide +kernel
theorem dX4_tower_32 : decode cX4_tower 32 = .ok (.iconst 0, 1) := by decide +kernel
theorem dX4_tower_33 : decode cX4_tower 33 = .ok (.istore_n 2, 1) := by decide +kernel
theorem dX4_tower_34 : decode cX4_tower 34 = .ok (.iload_n 2, 1) := by decide +kernel
theorem dX4_tower_35 : decode cX4_tower 35 = .ok (.ifCond .eq 14, 3) := by decide +kernel
theorem dX4_tower_38 : decode cX4_tower 38 = .ok (.aload_n 0, 1) := by decide +kernel
theorem dX4_tower_39 : decode cX4_tower 39 = .ok (.invokevirtual 41, 3) := by decide +kernel
theorem dX4_tower_42 : decode cX4_tower 42 = .ok (.aload_n 0, 1) := by decide +kernel
theorem dX4_tower_43 : decode cX4_tower 43 = .ok (.getfield 33, 3) := by decide +kernel
theorem dX4_tower_46 : decode cX4_tower 46 = .ok (.if_icmp .ge 6, 3) := by decide +kernel
theorem dX4_tower_49 : decode cX4_tower 49 = .ok (.bipush (-103), 2) := by decide +kernel
theorem dX4_tower_51 : decode cX4_tower 51 = .ok (.ireturn, 1) := by decide +kernel
theorem dX4_tower_52 : decode cX4_tower 52 = .ok (.aload_n 0, 1) := by decide +kernel
theorem dX4_tower_53 : decode cX4_tower 53 = .ok (.iload_n 1, 1) := by decide +kernel
theorem dX4_tower_54 : decode cX4_tower 54 = .ok (.invokevirtual 45, 3) := by decide +kernel
theorem dX4_tower_57 : decode cX4_tower 57 = .ok (.aload_n 0, 1) := by decide +kernel
theorem dX4_tower_58 : decode cX4_tower 58 = .ok (.iconst 0, 1) := by decide +kernel
theorem dX4_tower_59 : decode cX4_tower 59 = .ok (.putfield 33, 3) := by decide +kernel
theorem dX4_tower_62 : decode cX4_tower 62 = .ok (.aload_n 0, 1) := by decide +kernel
theorem dX4_tower_63 : decode cX4_tower 63 = .ok (.dup, 1) := by decide +kernel
theorem dX4_tower_64 : decode cX4_tower 64 = .ok (.getfield 49, 3) := by decide +kernel
theorem dX4_tower_67 : decode cX4_tower 67 = .ok (.iconst 1, 1) := by decide +kernel
theorem dX4_tower_68 : decode cX4_tower 68 = .ok (.iadd, 1) := by decide +kernel
theorem dX4_tower_69 : decode cX4_tower 69 = .ok (.putfield 49, 3) := by decide +kernel
theorem dX4_tower_72 : decode cX4_tower 72 = .ok (.aload_n 0, 1) := by decide +kernel
theorem dX4_tower_73 : decode cX4_tower 73 = .ok (.getfield 20, 3) := by decide +kernel
theorem dX4_tower_76 : decode cX4_tower 76 = .ok (.iconst 0, 1) := by decide +kernel
theorem dX4_tower_77 : decode cX4_tower 77 = .ok (.putfield 52, 3) := by decide +kernel
theorem dX4_tower_80 : decode cX4_tower 80 = .ok (.aload_n 0, 1) := by decide +kernel
theorem dX4_tower_81 : decode cX4_tower 81 = .ok (.iconst 0, 1) := by decide +kernel
theorem dX4_tower_82 : decode cX4_tower 82 = .ok (.putfield 55, 3) := by decide +kernel
theorem dX4_tower_85 : decode cX4_tower 85 = .ok (.iload_n 1, 1) := by decide +kernel
theorem dX4_tower_86 : decode cX4_tower 86 = .ok (.ireturn, 1) := by decide +kernel
set_option maxRecDepth 20000 in
theorem ggX4_fits_J0_indexOf_0f7a4 : GoodIn wsX4_fits wsJ0_indexOf_0f7a4 := goodIn_r _ [5, 6, 7, 8, 4, 9, 10, 11, 12, 13, 14, 15, 16, 17, 18, 19, 20, 21, 22, 23, 24, 25, 26, 27, 28, 29, 30, 31, 32, 33, 34, 35, 36, 37, 38, 39, 40, 41, 42, 43, 44, 45, 46, 47, 48, 49, 50, 51, 52, 53, 54, 55, 56, 57, 58, 59, 60, 61, 62, 63, 64, 65, 66, 67, 68, 69, 70, 71, 72, 73, 74, 75, 76, 77, 78, 79, 80, 81, 82, 83, 84, 85, 86, 87, 88, 89] (by decide +kernel) (by decide +kernel)
set_option maxRecDepth 20000 in
theorem gX4_fits_J0_indexOf_0f7a4 : GoodIn wsX4_fits (wsV RX4 61 RJ0 yJ0_indexOf_0f7a4 wsJ0_indexOf_0f7a4) := goodIn_app (goodIn_of _ (by decide +kernel)) ggX4_fits_J0_indexOf_0f7a4
theorem dX4_fits_0 : decode cX4_fits 0 = .ok (.iload_n 1, 1) := by decide +kernel
theorem dX4_fits_1 : decode cX4_fits 1 = .ok (.bipush 23, 2) := by decide +kernel
theorem dX4_fits_3 : decode cX4_fits 3 = .ok (.if_icmp .lt 5, 3) := by decide +kernel
theorem dX4_fits_6 : decode cX4_fits 6 = .ok (.iconst 0, 1) := by decide +kernel
theorem dX4_fits_7 : decode cX4_fits 7 = .ok (.ireturn, 1) := by decide +kernel
theorem dX4_fits_8 : decode cX4_fits 8 = .ok (.iload_n 1, 1) := by decide +kernel
theorem dX4_fits_9 : decode cX4_fits 9 = .ok (.bipush 8, 2) := by decide +kernel
theorem dX4_fits_11 : decode cX4_fits 11 = .ok (.irem, 1) := by decide +kernel
theorem dX4_fits_12 : decode cX4_fits 12 = .ok (.istore_n 2, 1) := by decide +kernel
theorem dX4_fits_13 : decode cX4_fits 13 = .ok (.iload_n 2, 1) := by decide +kernel
theorem dX4_fits_14 : decode cX4_fits 14 = .ok (.ifCond .ne 19, 3) := by decide +kernel
theorem dX4_fits_17 : decode cX4_fits 17 = .ok (.ldc 59, 2) := by decide +kernel
theorem dX4_fits_19 : decode cX4_fits 19 = .ok (.iload_n 0, 1) := by decide +kernel
theorem dX4_fits_20 : decode cX4_fits 20 = .ok (.i2c, 1) := by decide +kernel
theorem dX4_fits_21 : decode cX4_fits 21 = .ok (.invokevirtual 61, 3) := by decide +kernel
theorem dX4_fits_24 : decode cX4_fits 24 = .ok (.ifCond .lt 7, 3) := by decide +kernel
theorem dX4_fits_27 : decode cX4_fits 27 = .ok (.iconst 1, 1) := by decide +kernel
theorem dX4_fits_28 : decode cX4_fits 28 = .ok (.goto 4, 3) := by decide +kernel
theorem dX4_fits_31 : decode cX4_fits 31 = .ok (.iconst 0, 1) := by decide +kernel
theorem dX4_fits_32 : decode cX4_fits 32 = .ok (.ireturn, 1) := by decide +kernel
theorem dX4_fits_33 : decode cX4_fits 33 = .ok (.iload_n 2, 1) := by decide +kernel
theorem dX4_fits_34 : decode cX4_fits 34 = .ok (.bipush 7, 2) := by decide +kernel
theorem dX4_fits_36 : decode cX4_fits 36 = .ok (.if_icmp .ne 15, 3) := by decide +kernel
theorem dX4_fits_39 : decode cX4_fits 39 = .ok (.iload_n 0, 1) := by decide +kernel
theorem dX4_fits_40 : decode cX4_fits 40 = .ok (.bipush 44, 2) := by decide +kernel
theorem dX4_fits_42 : decode cX4_fits 42 = .ok (.if_icmp .ne 7, 3) := by decide +kernel
theorem dX4_fits_45 : decode cX4_fits 45 = .ok (.iconst 1, 1) := by decide +kernel
theorem dX4_fits_46 : decode cX4_fits 46 = .ok (.goto 4, 3) := by decide +kernel
theorem dX4_fits_49 : decode cX4_fits 49 = .ok (.iconst 0, 1) := by decide +kernel
theorem dX4_fits_50 : decode cX4_fits 50 = .ok (.ireturn, 1) := by decide +kernel
theorem dX4_fits_51 : decode cX4_fits 51 = .ok (.iload_n 0, 1) := by decide +kernel
theorem dX4_fits_52 : decode cX4_fits 52 = .ok (.bipush 97, 2) := by decide +kernel
theorem dX4_fits_54 : decode cX4_fits 54 = .ok (.if_icmp .lt 13, 3) := by decide +kernel
theorem dX4_fits_57 : decode cX4_fits 57 = .ok (.iload_n 0, 1) := by decide +kernel
theorem dX4_fits_58 : decode cX4_fits 58 = .ok (.bipush 103, 2) := by decide +kernel
theorem dX4_fits_60 : decode cX4_fits 60 = .ok (.if_icmp .ge 7, 3) := by decide +kernel
theorem dX4_fits_63 : decode cX4_fits 63 = .ok (.iconst 1, 1) := by decide +kernel
theorem dX4_fits_64 : decode cX4_fits 64 = .ok (.goto 4, 3) := by decide +kernel
theorem dX4_fits_67 : decode cX4_fits 67 = .ok (.iconst 0, 1) := by decide +kernel
theorem dX4_fits_68 : decode cX4_fits 68 = .ok (.ireturn, 1) := by decide +kernel
set_option maxRecDepth 20000 in
theorem ggX4_readPage_X2_forgetAll : GoodIn wsX4_readPage wsX2_forgetAll := goodIn_r _ [12, 13, 14, 15, 114, 115, 116, 117, 118, 119, 120] (by decide +kernel) (by decide +kernel)
set_option maxRecDepth 20000 in
theorem gX4_readPage_X2_forgetAll : GoodIn wsX4_readPage (wsV RX4 70 RX2 yX2_forgetAll wsX2_forgetAll) := goodIn_app (goodIn_of _ (by decide +kernel)) ggX4_readPage_X2_forgetAll
set_option maxRecDepth 20000 in
theorem ggX4_readPage_J0_indexOf_0f7a4 : GoodIn wsX4_readPage wsJ0_indexOf_0f7a4 := goodIn_r _ [20, 21, 22, 23, 19, 24, 25, 26, 27, 28, 29, 30, 31, 32, 33, 34, 35, 36, 37, 38, 39, 40, 41, 42, 43, 44, 45, 46, 47, 48, 49, 50, 51, 52, 53, 54, 55, 56, 57, 58, 59, 60, 61, 62, 63, 64, 65, 66, 67, 68, 69, 70, 71, 72, 73, 74, 75, 76, 77, 78, 79, 80, 81, 82, 83, 84, 85, 86, 87, 88, 89, 90, 91, 92, 93, 94, 95, 96, 97, 98, 99, 100, 101, 102, 103, 104] (by decide +kernel) (by decide +kernel)
set_option maxRecDepth 20000 in
theorem gX4_readPage_J0_indexOf_0f7a4 : GoodIn wsX4_readPage (wsV RX4 61 RJ0 yJ0_indexOf_0f7a4 wsJ0_indexOf_0f7a4) := goodIn_app (goodIn_of _ (by decide +kernel)) ggX4_readPage_J0_indexOf_0f7a4
theorem dX4_readPage_0 : decode cX4_readPage 0 = .ok (.aload_n 0, 1) := by decide +kernel
theorem dX4_readPage_1 : decode cX4_readPage 1 = .ok (.getfield 16, 3) := by decide +kernel
theorem dX4_readPage_4 : decode cX4_readPage 4 = .ok (.iload_n 1, 1) := by decide +kernel
theorem dX4_readPage_5 : decode cX4_readPage 5 = .ok (.putfield 52, 3) := by decide +kernel
theorem dX4_readPage_8 : decode cX4_readPage 8 = .ok (.aload_n 0, 1) := by decide +kernel
theorem dX4_readPage_9 : decode cX4_readPage 9 = .ok (.getfield 16, 3) := by decide +kernel
theorem dX4_readPage_12 : decode cX4_readPage 12 = .ok (.iconst 0, 1) := by decide +kernel
theorem dX4_readPage_13 : decode cX4_readPage 13 = .ok (.putfield 67, 3) := by decide +kernel
theorem dX4_readPage_16 : decode cX4_readPage 16 = .ok (.aload_n 0, 1) := by decide +kernel
theorem dX4_readPage_17 : decode cX4_readPage 17 = .ok (.getfield 16, 3) := by decide +kernel
theorem dX4_readPage_20 : decode cX4_readPage 20 = .ok (.invokevirtual 70, 3) := by decide +kernel
theorem dX4_readPage_23 : decode cX4_readPage 23 = .ok (.iconst 0, 1) := by decide +kernel
theorem dX4_readPage_24 : decode cX4_readPage 24 = .ok (.istore_n 2, 1) := by decide +kernel
theorem dX4_readPage_25 : decode cX4_readPage 25 = .ok (.iload_n 2, 1) := by decide +kernel
theorem dX4_readPage_26 : decode cX4_readPage 26 = .ok (.iload_n 1, 1) := by decide +kernel
theorem dX4_readPage_27 : decode cX4_readPage 27 = .ok (.if_icmp .ge 88, 3) := by decide +kernel
theorem dX4_readPage_30 : decode cX4_readPage 30 = .ok (.iload_n 2, 1) := by decide +kernel
theorem dX4_readPage_31 : decode cX4_readPage 31 = .ok (.iconst 3, 1) := by decide +kernel
theorem dX4_readPage_32 : decode cX4_readPage 32 = .ok (.if_icmp .ge 83, 3) := by decide +kernel
theorem dX4_readPage_35 : decode cX4_readPage 35 = .ok (.iload_n 2, 1) := by decide +kernel
theorem dX4_readPage_36 : decode cX4_readPage 36 = .ok (.bipush 8, 2) := by decide +kernel
theorem dX4_readPage_38 : decode cX4_readPage 38 = .ok (.imul, 1) := by decide +kernel
theorem dX4_readPage_39 : decode cX4_readPage 39 = .ok (.istore_n 3, 1) := by decide +kernel
theorem dX4_readPage_40 : decode cX4_readPage 40 = .ok (.aload_n 0, 1) := by decide +kernel
theorem dX4_readPage_41 : decode cX4_readPage 41 = .ok (.getfield 16, 3) := by decide +kernel
theorem dX4_readPage_44 : decode cX4_readPage 44 = .ok (.getfield 73, 3) := by decide +kernel
theorem dX4_readPage_47 : decode cX4_readPage 47 = .ok (.iload_n 2, 1) := by decide +kernel
theorem dX4_readPage_48 : decode cX4_readPage 48 = .ok (.aaload, 1) := by decide +kernel
theorem dX4_readPage_49 : decode cX4_readPage 49 = .ok (.ldc 59, 2) := by decide +kernel
theorem dX4_readPage_51 : decode cX4_readPage 51 = .ok (.aload_n 0, 1) := by decide +kernel
theorem dX4_readPage_52 : decode cX4_readPage 52 = .ok (.getfield 9, 3) := by decide +kernel
theorem dX4_readPage_55 : decode cX4_readPage 55 = .ok (.iload_n 3, 1) := by decide +kernel
theorem dX4_readPage_56 : decode cX4_readPage 56 = .ok (.iaload, 1) := by decide +kernel
theorem dX4_readPage_57 : decode cX4_readPage 57 = .ok (.i2c, 1) := by decide +kernel
theorem dX4_readPage_58 : decode cX4_readPage 58 = .ok (.invokevirtual 61, 3) := by decide +kernel
theorem dX4_readPage_61 : decode cX4_readPage 61 = .ok (.putfield 77, 3) := by decide +kernel
theorem dX4_readPage_64 : decode cX4_readPage 64 = .ok (.iconst 0, 1) := by decide +kernel
theorem dX4_readPage_65 : decode cX4_readPage 65 = .ok (.istore 4, 2) := by decide +kernel
theorem dX4_readPage_67 : decode cX4_readPage 67 = .ok (.iload 4, 2) := by decide +kernel
theorem dX4_readPage_69 : decode cX4_readPage 69 = .ok (.bipush 6, 2) := by decide +kernel
theorem dX4_readPage_71 : decode cX4_readPage 71 = .ok (.if_icmp .ge 38, 3) := by decide +kernel
theorem dX4_readPage_74 : decode cX4_readPage 74 = .ok (.aload_n 0, 1) := by decide +kernel
theorem dX4_readPage_75 : decode cX4_readPage 75 = .ok (.getfield 16, 3) := by decide +kernel
theorem dX4_readPage_78 : decode cX4_readPage 78 = .ok (.getfield 73, 3) := by decide +kernel
theorem dX4_readPage_81 : decode cX4_readPage 81 = .ok (.iload_n 2, 1) := by decide +kernel
theorem dX4_readPage_82 : decode cX4_readPage 82 = .ok (.aaload, 1) := by decide +kernel
theorem dX4_readPage_83 : decode cX4_readPage 83 = .ok (.getfield 82, 3) := by decide +kernel
theorem dX4_readPage_86 : decode cX4_readPage 86 = .ok (.iload 4, 2) := by decide +kernel
theorem dX4_readPage_88 : decode cX4_readPage 88 = .ok (.aload_n 0, 1) := by decide +kernel
theorem dX4_readPage_89 : decode cX4_readPage 89 = .ok (.getfield 9, 3) := by decide +kernel
theorem dX4_readPage_92 : decode cX4_readPage 92 = .ok (.iload_n 3, 1) := by decide +kernel
theorem dX4_readPage_93 : decode cX4_readPage 93 = .ok (.iconst 1, 1) := by decide +kernel
theorem dX4_readPage_94 : decode cX4_readPage 94 = .ok (.iadd, 1) := by decide +kernel
theorem dX4_readPage_95 : decode cX4_readPage 95 = .ok (.iload 4, 2) := by decide +kernel
theorem dX4_readPage_97 : decode cX4_readPage 97 = .ok (.iadd, 1) := by decide +kernel
theorem dX4_readPage_98 : decode cX4_readPage 98 = .ok (.iaload, 1) := by decide +kernel
theorem dX4_readPage_99 : decode cX4_readPage 99 = .ok (.bipush 97, 2) := by decide +kernel
theorem dX4_readPage_101 : decode cX4_readPage 101 = .ok (.isub, 1) := by decide +kernel
theorem dX4_readPage_102 : decode cX4_readPage 102 = .ok (.iastore, 1) := by decide +kernel
theorem dX4_readPage_103 : decode cX4_readPage 103 = .ok (.iinc 4 1, 3) := by decide +kernel
theorem dX4_readPage_106 : decode cX4_readPage 106 = .ok (.goto (-39), 3) := by decide +kernel
theorem dX4_readPage_109 : decode cX4_readPage 109 = .ok (.iinc 2 1, 3) := by decide +kernel
theorem dX4_readPage_112 : decode cX4_readPage 112 = .ok (.goto (-87), 3) := by decide +kernel
theorem dX4_readPage_115 : decode cX4_readPage 115 = .ok (.return_, 1) := by decide +kernel
set_option maxRecDepth 20000 in
theorem ggX4_cube_X2_has : GoodIn wsX4_cube wsX2_has := goodIn_r _ [14, 15, 41, 42, 43, 44] (by decide +kernel) (by decide +kernel)
set_option maxRecDepth 20000 in
theorem gX4_cube_X2_has : GoodIn wsX4_cube (wsV RX4 85 RX2 yX2_has wsX2_has) := goodIn_app (goodIn_of _ (by decide +kernel)) ggX4_cube_X2_has
set_option maxRecDepth 20000 in
theorem ggX4_cube_X4_nextQuestion : GoodIn wsX4_cube wsX4_nextQuestion := goodIn_r _ [19, 20, 21, 22, 23, 24, 25, 26, 27, 28, 29, 30, 31] (by decide +kernel) (by decide +kernel)
set_option maxRecDepth 20000 in
theorem gX4_cube_X4_nextQuestion : GoodIn wsX4_cube (va_wsS RX4 99 yX4_nextQuestion wsX4_nextQuestion) := goodIn_app (goodIn_of _ (by decide +kernel)) ggX4_cube_X4_nextQuestion
theorem dX4_cube_0 : decode cX4_cube 0 = .ok (.aload_n 0, 1) := by decide +kernel
theorem dX4_cube_1 : decode cX4_cube 1 = .ok (.getfield 16, 3) := by decide +kernel
theorem dX4_cube_4 : decode cX4_cube 4 = .ok (.iload_n 1, 1) := by decide +kernel
theorem dX4_cube_5 : decode cX4_cube 5 = .ok (.invokevirtual 85, 3) := by decide +kernel
theorem dX4_cube_8 : decode cX4_cube 8 = .ok (.ifCond .ne 6, 3) := by decide +kernel
theorem dX4_cube_11 : decode cX4_cube 11 = .ok (.bipush (-101), 2) := by decide +kernel
theorem dX4_cube_13 : decode cX4_cube 13 = .ok (.ireturn, 1) := by decide +kernel
theorem dX4_cube_14 : decode cX4_cube 14 = .ok (.aload_n 0, 1) := by decide +kernel
theorem dX4_cube_15 : decode cX4_cube 15 = .ok (.getfield 16, 3) := by decide +kernel
theorem dX4_cube_18 : decode cX4_cube 18 = .ok (.getfield 73, 3) := by decide +kernel
theorem dX4_cube_21 : decode cX4_cube 21 = .ok (.iload_n 1, 1) := by decide +kernel
theorem dX4_cube_22 : decode cX4_cube 22 = .ok (.aaload, 1) := by decide +kernel
theorem dX4_cube_23 : decode cX4_cube 23 = .ok (.astore_n 3, 1) := by decide +kernel
theorem dX4_cube_24 : decode cX4_cube 24 = .ok (.iload_n 2, 1) := by decide +kernel
theorem dX4_cube_25 : decode cX4_cube 25 = .ok (.bipush 10, 2) := by decide +kernel
theorem dX4_cube_27 : decode cX4_cube 27 = .ok (.if_icmp .lt 19, 3) := by decide +kernel
theorem dX4_cube_30 : decode cX4_cube 30 = .ok (.iload_n 2, 1) := by decide +kernel
theorem dX4_cube_31 : decode cX4_cube 31 = .ok (.bipush 16, 2) := by decide +kernel
theorem dX4_cube_33 : decode cX4_cube 33 = .ok (.if_icmp .ge 13, 3) := by decide +kernel
theorem dX4_cube_36 : decode cX4_cube 36 = .ok (.aload_n 3, 1) := by decide +kernel
theorem dX4_cube_37 : decode cX4_cube 37 = .ok (.getfield 82, 3) := by decide +kernel
theorem dX4_cube_40 : decode cX4_cube 40 = .ok (.iload_n 2, 1) := by decide +kernel
theorem dX4_cube_41 : decode cX4_cube 41 = .ok (.bipush 10, 2) := by decide +kernel
theorem dX4_cube_43 : decode cX4_cube 43 = .ok (.isub, 1) := by decide +kernel
theorem dX4_cube_44 : decode cX4_cube 44 = .ok (.iaload, 1) := by decide +kernel
theorem dX4_cube_45 : decode cX4_cube 45 = .ok (.ireturn, 1) := by decide +kernel
theorem dX4_cube_46 : decode cX4_cube 46 = .ok (.iload_n 2, 1) := by decide +kernel
theorem dX4_cube_47 : decode cX4_cube 47 = .ok (.tableswitch 76 0 4 #[33, 38, 54, 59, 67], 33) := by decide +kernel
theorem dX4_cube_80 : decode cX4_cube 80 = .ok (.aload_n 3, 1) := by decide +kernel
theorem dX4_cube_81 : decode cX4_cube 81 = .ok (.getfield 77, 3) := by decide +kernel
theorem dX4_cube_84 : decode cX4_cube 84 = .ok (.ireturn, 1) := by decide +kernel
theorem dX4_cube_85 : decode cX4_cube 85 = .ok (.aload_n 0, 1) := by decide +kernel
theorem dX4_cube_86 : decode cX4_cube 86 = .ok (.getfield 29, 3) := by decide +kernel
theorem dX4_cube_89 : decode cX4_cube 89 = .ok (.getfield 89, 3) := by decide +kernel
theorem dX4_cube_92 : decode cX4_cube 92 = .ok (.aload_n 3, 1) := by decide +kernel
theorem dX4_cube_93 : decode cX4_cube 93 = .ok (.getfield 77, 3) := by decide +kernel
theorem dX4_cube_96 : decode cX4_cube 96 = .ok (.aaload, 1) := by decide +kernel
theorem dX4_cube_97 : decode cX4_cube 97 = .ok (.getfield 93, 3) := by decide +kernel
theorem dX4_cube_100 : decode cX4_cube 100 = .ok (.ireturn, 1) := by decide +kernel
theorem dX4_cube_101 : decode cX4_cube 101 = .ok (.aload_n 3, 1) := by decide +kernel
theorem dX4_cube_102 : decode cX4_cube 102 = .ok (.getfield 96, 3) := by decide +kernel
theorem dX4_cube_105 : decode cX4_cube 105 = .ok (.ireturn, 1) := by decide +kernel
theorem dX4_cube_106 : decode cX4_cube 106 = .ok (.aload_n 3, 1) := by decide +kernel
theorem dX4_cube_107 : decode cX4_cube 107 = .ok (.getfield 96, 3) := by decide +kernel
theorem dX4_cube_110 : decode cX4_cube 110 = .ok (.invokestatic 99, 3) := by decide +kernel
theorem dX4_cube_113 : decode cX4_cube 113 = .ok (.ireturn, 1) := by decide +kernel
theorem dX4_cube_114 : decode cX4_cube 114 = .ok (.getstatic 102, 3) := by decide +kernel
theorem dX4_cube_117 : decode cX4_cube 117 = .ok (.aload_n 3, 1) := by decide +kernel
theorem dX4_cube_118 : decode cX4_cube 118 = .ok (.getfield 77, 3) := by decide +kernel
theorem dX4_cube_121 : decode cX4_cube 121 = .ok (.iaload, 1) := by decide +kernel
theorem dX4_cube_122 : decode cX4_cube 122 = .ok (.ireturn, 1) := by decide +kernel
theorem dX4_cube_123 : decode cX4_cube 123 = .ok (.bipush (-102), 2) := by decide +kernel
theorem dX4_cube_125 : decode cX4_cube 125 = .ok (.ireturn, 1) := by decide +kernel
set_option maxRecDepth 20000 in
theorem ggX4_as_X2_has : GoodIn wsX4_as wsX2_has := goodIn_r _ [9, 10, 20, 21, 22, 23] (by decide +kernel) (by decide +kernel)
set_option maxRecDepth 20000 in
theorem gX4_as_X2_has : GoodIn wsX4_as (wsV RX4 85 RX2 yX2_has wsX2_has) := goodIn_app (goodIn_of _ (by decide +kernel)) ggX4_as_X2_has
theorem dX4_as_0 : decode cX4_as 0 = .ok (.aload_n 0, 1) := by decide +kernel
theorem dX4_as_1 : decode cX4_as 1 = .ok (.getfield 16, 3) := by decide +kernel
theorem dX4_as_4 : decode cX4_as 4 = .ok (.iload_n 1, 1) := by decide +kernel
theorem dX4_as_5 : decode cX4_as 5 = .ok (.invokevirtual 85, 3) := by decide +kernel
theorem dX4_as_8 : decode cX4_as 8 = .ok (.ifCond .ne 6, 3) := by decide +kernel
theorem dX4_as_11 : decode cX4_as 11 = .ok (.bipush (-101), 2) := by decide +kernel
theorem dX4_as_13 : decode cX4_as 13 = .ok (.ireturn, 1) := by decide +kernel
theorem dX4_as_14 : decode cX4_as 14 = .ok (.iload_n 2, 1) := by decide +kernel
theorem dX4_as_15 : decode cX4_as 15 = .ok (.ifCond .lt 8, 3) := by decide +kernel
theorem dX4_as_18 : decode cX4_as 18 = .ok (.iload_n 2, 1) := by decide +kernel
theorem dX4_as_19 : decode cX4_as 19 = .ok (.iconst 5, 1) := by decide +kernel
theorem dX4_as_20 : decode cX4_as 20 = .ok (.if_icmp .lt 6, 3) := by decide +kernel
theorem dX4_as_23 : decode cX4_as 23 = .ok (.bipush (-102), 2) := by decide +kernel
theorem dX4_as_25 : decode cX4_as 25 = .ok (.ireturn, 1) := by decide +kernel
theorem dX4_as_26 : decode cX4_as 26 = .ok (.getstatic 105, 3) := by decide +kernel
theorem dX4_as_29 : decode cX4_as 29 = .ok (.aload_n 0, 1) := by decide +kernel
theorem dX4_as_30 : decode cX4_as 30 = .ok (.getfield 16, 3) := by decide +kernel
theorem dX4_as_33 : decode cX4_as 33 = .ok (.getfield 73, 3) := by decide +kernel
theorem dX4_as_36 : decode cX4_as 36 = .ok (.iload_n 1, 1) := by decide +kernel
theorem dX4_as_37 : decode cX4_as 37 = .ok (.aaload, 1) := by decide +kernel
theorem dX4_as_38 : decode cX4_as 38 = .ok (.getfield 77, 3) := by decide +kernel
theorem dX4_as_41 : decode cX4_as 41 = .ok (.iaload, 1) := by decide +kernel
theorem dX4_as_42 : decode cX4_as 42 = .ok (.iload_n 2, 1) := by decide +kernel
theorem dX4_as_43 : decode cX4_as 43 = .ok (.ishr, 1) := by decide +kernel
theorem dX4_as_44 : decode cX4_as 44 = .ok (.iconst 1, 1) := by decide +kernel
theorem dX4_as_45 : decode cX4_as 45 = .ok (.iand, 1) := by decide +kernel
theorem dX4_as_46 : decode cX4_as 46 = .ok (.iconst 1, 1) := by decide +kernel
theorem dX4_as_47 : decode cX4_as 47 = .ok (.if_icmp .ne 7, 3) := by decide +kernel
theorem dX4_as_50 : decode cX4_as 50 = .ok (.iload_n 1, 1) := by decide +kernel
theorem dX4_as_51 : decode cX4_as 51 = .ok (.goto 4, 3) := by decide +kernel
theorem dX4_as_54 : decode cX4_as 54 = .ok (.iconst (-1), 1) := by decide +kernel
theorem dX4_as_55 : decode cX4_as 55 = .ok (.ireturn, 1) := by decide +kernel
set_option maxRecDepth 20000 in
theorem ggX4_wall_X2_clashesOn : GoodIn wsX4_wall wsX2_clashesOn := goodIn_r _ [7, 8, 9, 10, 20, 21, 22, 23, 24, 25, 26] (by decide +kernel) (by decide +kernel)
set_option maxRecDepth 20000 in
theorem gX4_wall_X2_clashesOn : GoodIn wsX4_wall (wsV RX4 108 RX2 yX2_clashesOn wsX2_clashesOn) := goodIn_app (goodIn_of _ (by decide +kernel)) ggX4_wall_X2_clashesOn
theorem dX4_wall_0 : decode cX4_wall 0 = .ok (.iload_n 1, 1) := by decide +kernel
theorem dX4_wall_1 : decode cX4_wall 1 = .ok (.ifCond .lt 18, 3) := by decide +kernel
theorem dX4_wall_4 : decode cX4_wall 4 = .ok (.iload_n 1, 1) := by decide +kernel
theorem dX4_wall_5 : decode cX4_wall 5 = .ok (.iconst 4, 1) := by decide +kernel
theorem dX4_wall_6 : decode cX4_wall 6 = .ok (.if_icmp .ge 13, 3) := by decide +kernel
theorem dX4_wall_9 : decode cX4_wall 9 = .ok (.aload_n 0, 1) := by decide +kernel
theorem dX4_wall_10 : decode cX4_wall 10 = .ok (.getfield 16, 3) := by decide +kernel
theorem dX4_wall_13 : decode cX4_wall 13 = .ok (.getfield 52, 3) := by decide +kernel
theorem dX4_wall_16 : decode cX4_wall 16 = .ok (.ifCond .ne 6, 3) := by decide +kernel
theorem dX4_wall_19 : decode cX4_wall 19 = .ok (.bipush (-101), 2) := by decide +kernel
theorem dX4_wall_21 : decode cX4_wall 21 = .ok (.ireturn, 1) := by decide +kernel
theorem dX4_wall_22 : decode cX4_wall 22 = .ok (.iload_n 2, 1) := by decide +kernel
theorem dX4_wall_23 : decode cX4_wall 23 = .ok (.ifCond .lt 8, 3) := by decide +kernel
theorem dX4_wall_26 : decode cX4_wall 26 = .ok (.iload_n 2, 1) := by decide +kernel
theorem dX4_wall_27 : decode cX4_wall 27 = .ok (.iconst 1, 1) := by decide +kernel
theorem dX4_wall_28 : decode cX4_wall 28 = .ok (.if_icmp .le 6, 3) := by decide +kernel
theorem dX4_wall_31 : decode cX4_wall 31 = .ok (.bipush (-102), 2) := by decide +kernel
theorem dX4_wall_33 : decode cX4_wall 33 = .ok (.ireturn, 1) := by decide +kernel
theorem dX4_wall_34 : decode cX4_wall 34 = .ok (.aload_n 0, 1) := by decide +kernel
theorem dX4_wall_35 : decode cX4_wall 35 = .ok (.getfield 16, 3) := by decide +kernel
theorem dX4_wall_38 : decode cX4_wall 38 = .ok (.iload_n 1, 1) := by decide +kernel
theorem dX4_wall_39 : decode cX4_wall 39 = .ok (.invokevirtual 108, 3) := by decide +kernel
theorem dX4_wall_42 : decode cX4_wall 42 = .ok (.istore_n 3, 1) := by decide +kernel
theorem dX4_wall_43 : decode cX4_wall 43 = .ok (.iload_n 2, 1) := by decide +kernel
theorem dX4_wall_44 : decode cX4_wall 44 = .ok (.iconst 1, 1) := by decide +kernel
theorem dX4_wall_45 : decode cX4_wall 45 = .ok (.if_icmp .ne 7, 3) := by decide +kernel
theorem dX4_wall_48 : decode cX4_wall 48 = .ok (.iload_n 3, 1) := by decide +kernel
theorem dX4_wall_49 : decode cX4_wall 49 = .ok (.goto 12, 3) := by decide +kernel
theorem dX4_wall_52 : decode cX4_wall 52 = .ok (.iload_n 3, 1) := by decide +kernel
theorem dX4_wall_53 : decode cX4_wall 53 = .ok (.ifCond .ne 7, 3) := by decide +kernel
theorem dX4_wall_56 : decode cX4_wall 56 = .ok (.iconst 1, 1) := by decide +kernel
theorem dX4_wall_57 : decode cX4_wall 57 = .ok (.goto 4, 3) := by decide +kernel
theorem dX4_wall_60 : decode cX4_wall 60 = .ok (.iconst 0, 1) := by decide +kernel
theorem dX4_wall_61 : decode cX4_wall 61 = .ok (.ireturn, 1) := by decide +kernel
set_option maxRecDepth 20000 in
theorem ggX4_nextQuestion_J6_bitCount_0f7a4 : GoodIn wsX4_nextQuestion wsJ6_bitCount_0f7a4 := goodIn_r _ [9, 10, 11, 12] (by decide +kernel) (by decide +kernel)
set_option maxRecDepth 20000 in
theorem gX4_nextQuestion_J6_bitCount_0f7a4 : GoodIn wsX4_nextQuestion (va_wsS RX4 114 yJ6_bitCount_0f7a4 wsJ6_bitCount_0f7a4) := goodIn_app (goodIn_of _ (by decide +kernel)) ggX4_nextQuestion_J6_bitCount_0f7a4
theorem dX4_nextQuestion_0 : decode cX4_nextQuestion 0 = .ok (.iload_n 0, 1) := by decide +kernel
theorem dX4_nextQuestion_1 : decode cX4_nextQuestion 1 = .ok (.ifCond .ne 5, 3) := by decide +kernel
theorem dX4_nextQuestion_4 : decode cX4_nextQuestion 4 = .ok (.iconst (-1), 1) := by decide +kernel
theorem dX4_nextQuestion_5 : decode cX4_nextQuestion 5 = .ok (.ireturn, 1) := by decide +kernel
theorem dX4_nextQuestion_6 : decode cX4_nextQuestion 6 = .ok (.iconst 0, 1) := by decide +kernel
theorem dX4_nextQuestion_7 : decode cX4_nextQuestion 7 = .ok (.istore_n 1, 1) := by decide +kernel
theorem dX4_nextQuestion_8 : decode cX4_nextQuestion 8 = .ok (.bipush 6, 2) := by decide +kernel
theorem dX4_nextQuestion_10 : decode cX4_nextQuestion 10 = .ok (.istore_n 2, 1) := by decide +kernel
theorem dX4_nextQuestion_11 : decode cX4_nextQuestion 11 = .ok (.iconst 0, 1) := by decide +kernel
theorem dX4_nextQuestion_12 : decode cX4_nextQuestion 12 = .ok (.istore_n 3, 1) := by decide +kernel
theorem dX4_nextQuestion_13 : decode cX4_nextQuestion 13 = .ok (.iload_n 3, 1) := by decide +kernel
theorem dX4_nextQuestion_14 : decode cX4_nextQuestion 14 = .ok (.iconst 3, 1) := by decide +kernel
theorem dX4_nextQuestion_15 : decode cX4_nextQuestion 15 = .ok (.if_icmp .ge 55, 3) := by decide +kernel
theorem dX4_nextQuestion_18 : decode cX4_nextQuestion 18 = .ok (.iload_n 0, 1) := by decide +kernel
theorem dX4_nextQuestion_19 : decode cX4_nextQuestion 19 = .ok (.getstatic 111, 3) := by decide +kernel
theorem dX4_nextQuestion_22 : decode cX4_nextQuestion 22 = .ok (.iload_n 3, 1) := by decide +kernel
theorem dX4_nextQuestion_23 : decode cX4_nextQuestion 23 = .ok (.iaload, 1) := by decide +kernel
theorem dX4_nextQuestion_24 : decode cX4_nextQuestion 24 = .ok (.iand, 1) := by decide +kernel
theorem dX4_nextQuestion_25 : decode cX4_nextQuestion 25 = .ok (.invokestatic 114, 3) := by decide +kernel
theorem dX4_nextQuestion_28 : decode cX4_nextQuestion 28 = .ok (.istore 4, 2) := by decide +kernel
theorem dX4_nextQuestion_30 : decode cX4_nextQuestion 30 = .ok (.iload_n 0, 1) := by decide +kernel
theorem dX4_nextQuestion_31 : decode cX4_nextQuestion 31 = .ok (.getstatic 111, 3) := by decide +kernel
theorem dX4_nextQuestion_34 : decode cX4_nextQuestion 34 = .ok (.iload_n 3, 1) := by decide +kernel
theorem dX4_nextQuestion_35 : decode cX4_nextQuestion 35 = .ok (.iaload, 1) := by decide +kernel
theorem dX4_nextQuestion_36 : decode cX4_nextQuestion 36 = .ok (.iconst (-1), 1) := by decide +kernel
theorem dX4_nextQuestion_37 : decode cX4_nextQuestion 37 = .ok (.ixor, 1) := by decide +kernel
theorem dX4_nextQuestion_38 : decode cX4_nextQuestion 38 = .ok (.iand, 1) := by decide +kernel
theorem dX4_nextQuestion_39 : decode cX4_nextQuestion 39 = .ok (.invokestatic 114, 3) := by decide +kernel
theorem dX4_nextQuestion_42 : decode cX4_nextQuestion 42 = .ok (.istore 5, 2) := by decide +kernel
theorem dX4_nextQuestion_44 : decode cX4_nextQuestion 44 = .ok (.iload 4, 2) := by decide +kernel
theorem dX4_nextQuestion_46 : decode cX4_nextQuestion 46 = .ok (.iload 5, 2) := by decide +kernel
theorem dX4_nextQuestion_48 : decode cX4_nextQuestion 48 = .ok (.invokestatic 119, 3) := by decide +kernel
theorem dX4_nextQuestion_51 : decode cX4_nextQuestion 51 = .ok (.istore 6, 2) := by decide +kernel
theorem dX4_nextQuestion_53 : decode cX4_nextQuestion 53 = .ok (.iload 6, 2) := by decide +kernel
theorem dX4_nextQuestion_55 : decode cX4_nextQuestion 55 = .ok (.iload_n 2, 1) := by decide +kernel
theorem dX4_nextQuestion_56 : decode cX4_nextQuestion 56 = .ok (.if_icmp .ge 8, 3) := by decide +kernel
theorem dX4_nextQuestion_59 : decode cX4_nextQuestion 59 = .ok (.iload 6, 2) := by decide +kernel
theorem dX4_nextQuestion_61 : decode cX4_nextQuestion 61 = .ok (.istore_n 2, 1) := by decide +kernel
theorem dX4_nextQuestion_62 : decode cX4_nextQuestion 62 = .ok (.iload_n 3, 1) := by decide +kernel
theorem dX4_nextQuestion_63 : decode cX4_nextQuestion 63 = .ok (.istore_n 1, 1) := by decide +kernel
theorem dX4_nextQuestion_64 : decode cX4_nextQuestion 64 = .ok (.iinc 3 1, 3) := by decide +kernel
theorem dX4_nextQuestion_67 : decode cX4_nextQuestion 67 = .ok (.goto (-54), 3) := by decide +kernel
theorem dX4_nextQuestion_70 : decode cX4_nextQuestion 70 = .ok (.iload_n 1, 1) := by decide +kernel
theorem dX4_nextQuestion_71 : decode cX4_nextQuestion 71 = .ok (.ireturn, 1) := by decide +kernel
set_option maxRecDepth 20000 in
theorem ggX4_turn_X2_has : GoodIn wsX4_turn wsX2_has := goodIn_r _ [10, 11, 46, 47, 48, 49] (by decide +kernel) (by decide +kernel)
set_option maxRecDepth 20000 in
theorem gX4_turn_X2_has : GoodIn wsX4_turn (wsV RX4 85 RX2 yX2_has wsX2_has) := goodIn_app (goodIn_of _ (by decide +kernel)) ggX4_turn_X2_has
set_option maxRecDepth 20000 in
theorem ggX4_turn_X4_canTurn : GoodIn wsX4_turn wsX4_canTurn := goodIn_r _ [15, 16] (by decide +kernel) (by decide +kernel)
set_option maxRecDepth 20000 in
theorem gX4_turn_X4_canTurn : GoodIn wsX4_turn (va_wsS RX4 125 yX4_canTurn wsX4_canTurn) := goodIn_app (goodIn_of _ (by decide +kernel)) ggX4_turn_X4_canTurn
set_option maxRecDepth 20000 in
theorem ggX4_turn_X0_turnOver : GoodIn wsX4_turn wsX0_turnOver := goodIn_r _ [21, 22, 23, 24, 14, 25, 26, 50, 51, 52] (by decide +kernel) (by decide +kernel)
set_option maxRecDepth 20000 in
theorem gX4_turn_X0_turnOver : GoodIn wsX4_turn (wsV RX4 128 RX0 yX0_turnOver wsX0_turnOver) := goodIn_app (goodIn_of _ (by decide +kernel)) ggX4_turn_X0_turnOver
set_option maxRecDepth 20000 in
theorem ggX4_turn_X2_clashes : GoodIn wsX4_turn wsX2_clashes := goodIn_r _ [30, 31, 32, 33, 9, 34, 11, 35, 36, 46, 47, 48, 49, 50, 51, 52] (by decide +kernel) (by decide +kernel)
set_option maxRecDepth 20000 in
theorem gX4_turn_X2_clashes : GoodIn wsX4_turn (wsV RX4 131 RX2 yX2_clashes wsX2_clashes) := goodIn_app (goodIn_of _ (by decide +kernel)) ggX4_turn_X2_clashes
theorem dX4_turn_0 : decode cX4_turn 0 = .ok (.aload_n 0, 1) := by decide +kernel
theorem dX4_turn_1 : decode cX4_turn 1 = .ok (.getfield 16, 3) := by decide +kernel
theorem dX4_turn_4 : decode cX4_turn 4 = .ok (.iload_n 1, 1) := by decide +kernel
theorem dX4_turn_5 : decode cX4_turn 5 = .ok (.invokevirtual 85, 3) := by decide +kernel
theorem dX4_turn_8 : decode cX4_turn 8 = .ok (.ifCond .ne 6, 3) := by decide +kernel
theorem dX4_turn_11 : decode cX4_turn 11 = .ok (.bipush (-101), 2) := by decide +kernel
theorem dX4_turn_13 : decode cX4_turn 13 = .ok (.ireturn, 1) := by decide +kernel
theorem dX4_turn_14 : decode cX4_turn 14 = .ok (.iload_n 2, 1) := by decide +kernel
theorem dX4_turn_15 : decode cX4_turn 15 = .ok (.ifCond .lt 8, 3) := by decide +kernel
theorem dX4_turn_18 : decode cX4_turn 18 = .ok (.iload_n 2, 1) := by decide +kernel
theorem dX4_turn_19 : decode cX4_turn 19 = .ok (.iconst 4, 1) := by decide +kernel
theorem dX4_turn_20 : decode cX4_turn 20 = .ok (.if_icmp .lt 6, 3) := by decide +kernel
theorem dX4_turn_23 : decode cX4_turn 23 = .ok (.bipush (-102), 2) := by decide +kernel
theorem dX4_turn_25 : decode cX4_turn 25 = .ok (.ireturn, 1) := by decide +kernel
theorem dX4_turn_26 : decode cX4_turn 26 = .ok (.aload_n 0, 1) := by decide +kernel
theorem dX4_turn_27 : decode cX4_turn 27 = .ok (.getfield 16, 3) := by decide +kernel
theorem dX4_turn_30 : decode cX4_turn 30 = .ok (.getfield 73, 3) := by decide +kernel
theorem dX4_turn_33 : decode cX4_turn 33 = .ok (.iload_n 1, 1) := by decide +kernel
theorem dX4_turn_34 : decode cX4_turn 34 = .ok (.aaload, 1) := by decide +kernel
theorem dX4_turn_35 : decode cX4_turn 35 = .ok (.getfield 77, 3) := by decide +kernel
theorem dX4_turn_38 : decode cX4_turn 38 = .ok (.iload_n 2, 1) := by decide +kernel
theorem dX4_turn_39 : decode cX4_turn 39 = .ok (.invokestatic 125, 3) := by decide +kernel
theorem dX4_turn_42 : decode cX4_turn 42 = .ok (.ifCond .ne 6, 3) := by decide +kernel
theorem dX4_turn_45 : decode cX4_turn 45 = .ok (.bipush (-103), 2) := by decide +kernel
theorem dX4_turn_47 : decode cX4_turn 47 = .ok (.ireturn, 1) := by decide +kernel
theorem dX4_turn_48 : decode cX4_turn 48 = .ok (.aload_n 0, 1) := by decide +kernel
theorem dX4_turn_49 : decode cX4_turn 49 = .ok (.getfield 16, 3) := by decide +kernel
theorem dX4_turn_52 : decode cX4_turn 52 = .ok (.getfield 67, 3) := by decide +kernel
theorem dX4_turn_55 : decode cX4_turn 55 = .ok (.sipush 999, 3) := by decide +kernel
theorem dX4_turn_58 : decode cX4_turn 58 = .ok (.if_icmp .lt 6, 3) := by decide +kernel
theorem dX4_turn_61 : decode cX4_turn 61 = .ok (.bipush (-104), 2) := by decide +kernel
theorem dX4_turn_63 : decode cX4_turn 63 = .ok (.ireturn, 1) := by decide +kernel
theorem dX4_turn_64 : decode cX4_turn 64 = .ok (.aload_n 0, 1) := by decide +kernel
theorem dX4_turn_65 : decode cX4_turn 65 = .ok (.getfield 16, 3) := by decide +kernel
theorem dX4_turn_68 : decode cX4_turn 68 = .ok (.getfield 73, 3) := by decide +kernel
theorem dX4_turn_71 : decode cX4_turn 71 = .ok (.iload_n 1, 1) := by decide +kernel
theorem dX4_turn_72 : decode cX4_turn 72 = .ok (.aaload, 1) := by decide +kernel
theorem dX4_turn_73 : decode cX4_turn 73 = .ok (.iload_n 2, 1) := by decide +kernel
theorem dX4_turn_74 : decode cX4_turn 74 = .ok (.invokevirtual 128, 3) := by decide +kernel
theorem dX4_turn_77 : decode cX4_turn 77 = .ok (.aload_n 0, 1) := by decide +kernel
theorem dX4_turn_78 : decode cX4_turn 78 = .ok (.getfield 16, 3) := by decide +kernel
theorem dX4_turn_81 : decode cX4_turn 81 = .ok (.dup, 1) := by decide +kernel
theorem dX4_turn_82 : decode cX4_turn 82 = .ok (.getfield 67, 3) := by decide +kernel
theorem dX4_turn_85 : decode cX4_turn 85 = .ok (.iconst 1, 1) := by decide +kernel
theorem dX4_turn_86 : decode cX4_turn 86 = .ok (.iadd, 1) := by decide +kernel
theorem dX4_turn_87 : decode cX4_turn 87 = .ok (.putfield 67, 3) := by decide +kernel
theorem dX4_turn_90 : decode cX4_turn 90 = .ok (.aload_n 0, 1) := by decide +kernel
theorem dX4_turn_91 : decode cX4_turn 91 = .ok (.iconst 0, 1) := by decide +kernel
theorem dX4_turn_92 : decode cX4_turn 92 = .ok (.putfield 55, 3) := by decide +kernel
theorem dX4_turn_95 : decode cX4_turn 95 = .ok (.aload_n 0, 1) := by decide +kernel
theorem dX4_turn_96 : decode cX4_turn 96 = .ok (.getfield 16, 3) := by decide +kernel
theorem dX4_turn_99 : decode cX4_turn 99 = .ok (.invokevirtual 131, 3) := by decide +kernel
theorem dX4_turn_102 : decode cX4_turn 102 = .ok (.ireturn, 1) := by decide +kernel
set_option maxRecDepth 20000 in
theorem ggX4_paint_X2_has : GoodIn wsX4_paint wsX2_has := goodIn_r _ [9, 10, 20, 21, 22, 23] (by decide +kernel) (by decide +kernel)
set_option maxRecDepth 20000 in
theorem gX4_paint_X2_has : GoodIn wsX4_paint (wsV RX4 85 RX2 yX2_has wsX2_has) := goodIn_app (goodIn_of _ (by decide +kernel)) ggX4_paint_X2_has
theorem dX4_paint_0 : decode cX4_paint 0 = .ok (.aload_n 0, 1) := by decide +kernel
theorem dX4_paint_1 : decode cX4_paint 1 = .ok (.getfield 16, 3) := by decide +kernel
theorem dX4_paint_4 : decode cX4_paint 4 = .ok (.iload_n 1, 1) := by decide +kernel
theorem dX4_paint_5 : decode cX4_paint 5 = .ok (.invokevirtual 85, 3) := by decide +kernel
theorem dX4_paint_8 : decode cX4_paint 8 = .ok (.ifCond .eq 13, 3) := by decide +kernel
theorem dX4_paint_11 : decode cX4_paint 11 = .ok (.iload_n 2, 1) := by decide +kernel
theorem dX4_paint_12 : decode cX4_paint 12 = .ok (.ifCond .lt 9, 3) := by decide +kernel
theorem dX4_paint_15 : decode cX4_paint 15 = .ok (.iload_n 2, 1) := by decide +kernel
theorem dX4_paint_16 : decode cX4_paint 16 = .ok (.bipush 6, 2) := by decide +kernel
theorem dX4_paint_18 : decode cX4_paint 18 = .ok (.if_icmp .lt 6, 3) := by decide +kernel
theorem dX4_paint_21 : decode cX4_paint 21 = .ok (.bipush (-101), 2) := by decide +kernel
theorem dX4_paint_23 : decode cX4_paint 23 = .ok (.ireturn, 1) := by decide +kernel
theorem dX4_paint_24 : decode cX4_paint 24 = .ok (.iload_n 3, 1) := by decide +kernel
theorem dX4_paint_25 : decode cX4_paint 25 = .ok (.ifCond .lt 9, 3) := by decide +kernel
theorem dX4_paint_28 : decode cX4_paint 28 = .ok (.iload_n 3, 1) := by decide +kernel
theorem dX4_paint_29 : decode cX4_paint 29 = .ok (.bipush 6, 2) := by decide +kernel
theorem dX4_paint_31 : decode cX4_paint 31 = .ok (.if_icmp .lt 6, 3) := by decide +kernel
theorem dX4_paint_34 : decode cX4_paint 34 = .ok (.bipush (-102), 2) := by decide +kernel
theorem dX4_paint_36 : decode cX4_paint 36 = .ok (.ireturn, 1) := by decide +kernel
theorem dX4_paint_37 : decode cX4_paint 37 = .ok (.aload_n 0, 1) := by decide +kernel
theorem dX4_paint_38 : decode cX4_paint 38 = .ok (.getfield 16, 3) := by decide +kernel
theorem dX4_paint_41 : decode cX4_paint 41 = .ok (.getfield 73, 3) := by decide +kernel
theorem dX4_paint_44 : decode cX4_paint 44 = .ok (.iload_n 1, 1) := by decide +kernel
theorem dX4_paint_45 : decode cX4_paint 45 = .ok (.aaload, 1) := by decide +kernel
theorem dX4_paint_46 : decode cX4_paint 46 = .ok (.getfield 82, 3) := by decide +kernel
theorem dX4_paint_49 : decode cX4_paint 49 = .ok (.iload_n 2, 1) := by decide +kernel
theorem dX4_paint_50 : decode cX4_paint 50 = .ok (.iaload, 1) := by decide +kernel
theorem dX4_paint_51 : decode cX4_paint 51 = .ok (.istore 4, 2) := by decide +kernel
theorem dX4_paint_53 : decode cX4_paint 53 = .ok (.aload_n 0, 1) := by decide +kernel
theorem dX4_paint_54 : decode cX4_paint 54 = .ok (.getfield 16, 3) := by decide +kernel
theorem dX4_paint_57 : decode cX4_paint 57 = .ok (.getfield 73, 3) := by decide +kernel
theorem dX4_paint_60 : decode cX4_paint 60 = .ok (.iload_n 1, 1) := by decide +kernel
theorem dX4_paint_61 : decode cX4_paint 61 = .ok (.aaload, 1) := by decide +kernel
theorem dX4_paint_62 : decode cX4_paint 62 = .ok (.getfield 82, 3) := by decide +kernel
theorem dX4_paint_65 : decode cX4_paint 65 = .ok (.iload_n 2, 1) := by decide +kernel
theorem dX4_paint_66 : decode cX4_paint 66 = .ok (.iload_n 3, 1) := by decide +kernel
theorem dX4_paint_67 : decode cX4_paint 67 = .ok (.iastore, 1) := by decide +kernel
theorem dX4_paint_68 : decode cX4_paint 68 = .ok (.aload_n 0, 1) := by decide +kernel
theorem dX4_paint_69 : decode cX4_paint 69 = .ok (.iconst 0, 1) := by decide +kernel
theorem dX4_paint_70 : decode cX4_paint 70 = .ok (.putfield 55, 3) := by decide +kernel
theorem dX4_paint_73 : decode cX4_paint 73 = .ok (.iload 4, 2) := by decide +kernel
theorem dX4_paint_75 : decode cX4_paint 75 = .ok (.ireturn, 1) := by decide +kernel
set_option maxRecDepth 20000 in
theorem ggX4_swap_X2_has : GoodIn wsX4_swap wsX2_has := goodIn_r _ [8, 9, 29, 30, 31, 32] (by decide +kernel) (by decide +kernel)
set_option maxRecDepth 20000 in
theorem gX4_swap_X2_has : GoodIn wsX4_swap (wsV RX4 85 RX2 yX2_has wsX2_has) := goodIn_app (goodIn_of _ (by decide +kernel)) ggX4_swap_X2_has
set_option maxRecDepth 20000 in
theorem ggX4_swap_X2_clashes : GoodIn wsX4_swap wsX2_clashes := goodIn_r _ [13, 14, 15, 16, 7, 17, 9, 18, 19, 29, 30, 31, 32, 33, 34, 35] (by decide +kernel) (by decide +kernel)
set_option maxRecDepth 20000 in
theorem gX4_swap_X2_clashes : GoodIn wsX4_swap (wsV RX4 131 RX2 yX2_clashes wsX2_clashes) := goodIn_app (goodIn_of _ (by decide +kernel)) ggX4_swap_X2_clashes
theorem dX4_swap_0 : decode cX4_swap 0 = .ok (.aload_n 0, 1) := by decide +kernel
theorem dX4_swap_1 : decode cX4_swap 1 = .ok (.getfield 16, 3) := by decide +kernel
theorem dX4_swap_4 : decode cX4_swap 4 = .ok (.iload_n 1, 1) := by decide +kernel
theorem dX4_swap_5 : decode cX4_swap 5 = .ok (.invokevirtual 85, 3) := by decide +kernel
theorem dX4_swap_8 : decode cX4_swap 8 = .ok (.ifCond .eq 19, 3) := by decide +kernel
theorem dX4_swap_11 : decode cX4_swap 11 = .ok (.aload_n 0, 1) := by decide +kernel
theorem dX4_swap_12 : decode cX4_swap 12 = .ok (.getfield 16, 3) := by decide +kernel
theorem dX4_swap_15 : decode cX4_swap 15 = .ok (.iload_n 2, 1) := by decide +kernel
theorem dX4_swap_16 : decode cX4_swap 16 = .ok (.invokevirtual 85, 3) := by decide +kernel
theorem dX4_swap_19 : decode cX4_swap 19 = .ok (.ifCond .eq 8, 3) := by decide +kernel
theorem dX4_swap_22 : decode cX4_swap 22 = .ok (.iload_n 1, 1) := by decide +kernel
theorem dX4_swap_23 : decode cX4_swap 23 = .ok (.iload_n 2, 1) := by decide +kernel
theorem dX4_swap_24 : decode cX4_swap 24 = .ok (.if_icmp .ne 6, 3) := by decide +kernel
theorem dX4_swap_27 : decode cX4_swap 27 = .ok (.bipush (-101), 2) := by decide +kernel
theorem dX4_swap_29 : decode cX4_swap 29 = .ok (.ireturn, 1) := by decide +kernel
theorem dX4_swap_30 : decode cX4_swap 30 = .ok (.aload_n 0, 1) := by decide +kernel
theorem dX4_swap_31 : decode cX4_swap 31 = .ok (.getfield 16, 3) := by decide +kernel
theorem dX4_swap_34 : decode cX4_swap 34 = .ok (.getfield 73, 3) := by decide +kernel
theorem dX4_swap_37 : decode cX4_swap 37 = .ok (.iload_n 1, 1) := by decide +kernel
theorem dX4_swap_38 : decode cX4_swap 38 = .ok (.aaload, 1) := by decide +kernel
theorem dX4_swap_39 : decode cX4_swap 39 = .ok (.astore_n 3, 1) := by decide +kernel
theorem dX4_swap_40 : decode cX4_swap 40 = .ok (.aload_n 0, 1) := by decide +kernel
theorem dX4_swap_41 : decode cX4_swap 41 = .ok (.getfield 16, 3) := by decide +kernel
theorem dX4_swap_44 : decode cX4_swap 44 = .ok (.getfield 73, 3) := by decide +kernel
theorem dX4_swap_47 : decode cX4_swap 47 = .ok (.iload_n 1, 1) := by decide +kernel
theorem dX4_swap_48 : decode cX4_swap 48 = .ok (.aload_n 0, 1) := by decide +kernel
theorem dX4_swap_49 : decode cX4_swap 49 = .ok (.getfield 16, 3) := by decide +kernel
theorem dX4_swap_52 : decode cX4_swap 52 = .ok (.getfield 73, 3) := by decide +kernel
theorem dX4_swap_55 : decode cX4_swap 55 = .ok (.iload_n 2, 1) := by decide +kernel
theorem dX4_swap_56 : decode cX4_swap 56 = .ok (.aaload, 1) := by decide +kernel
theorem dX4_swap_57 : decode cX4_swap 57 = .ok (.aastore, 1) := by decide +kernel
theorem dX4_swap_58 : decode cX4_swap 58 = .ok (.aload_n 0, 1) := by decide +kernel
theorem dX4_swap_59 : decode cX4_swap 59 = .ok (.getfield 16, 3) := by decide +kernel
theorem dX4_swap_62 : decode cX4_swap 62 = .ok (.getfield 73, 3) := by decide +kernel
theorem dX4_swap_65 : decode cX4_swap 65 = .ok (.iload_n 2, 1) := by decide +kernel
theorem dX4_swap_66 : decode cX4_swap 66 = .ok (.aload_n 3, 1) := by decide +kernel
theorem dX4_swap_67 : decode cX4_swap 67 = .ok (.aastore, 1) := by decide +kernel
theorem dX4_swap_68 : decode cX4_swap 68 = .ok (.aload_n 0, 1) := by decide +kernel
theorem dX4_swap_69 : decode cX4_swap 69 = .ok (.iconst 0, 1) := by decide +kernel
theorem dX4_swap_70 : decode cX4_swap 70 = .ok (.putfield 55, 3) := by decide +kernel
theorem dX4_swap_73 : decode cX4_swap 73 = .ok (.aload_n 0, 1) := by decide +kernel
theorem dX4_swap_74 : decode cX4_swap 74 = .ok (.getfield 16, 3) := by decide +kernel
theorem dX4_swap_77 : decode cX4_swap 77 = .ok (.invokevirtual 131, 3) := by decide +kernel
theorem dX4_swap_80 : decode cX4_swap 80 = .ok (.ireturn, 1) := by decide +kernel
set_option maxRecDepth 20000 in
theorem ggX4_be_X2_has : GoodIn wsX4_be wsX2_has := goodIn_r _ [9, 10, 20, 21, 22, 23] (by decide +kernel) (by decide +kernel)
set_option maxRecDepth 20000 in
theorem gX4_be_X2_has : GoodIn wsX4_be (wsV RX4 85 RX2 yX2_has wsX2_has) := goodIn_app (goodIn_of _ (by decide +kernel)) ggX4_be_X2_has
theorem dX4_be_0 : decode cX4_be 0 = .ok (.aload_n 0, 1) := by decide +kernel
theorem dX4_be_1 : decode cX4_be 1 = .ok (.getfield 16, 3) := by decide +kernel
theorem dX4_be_4 : decode cX4_be 4 = .ok (.iload_n 1, 1) := by decide +kernel
theorem dX4_be_5 : decode cX4_be 5 = .ok (.invokevirtual 85, 3) := by decide +kernel
theorem dX4_be_8 : decode cX4_be 8 = .ok (.ifCond .ne 6, 3) := by decide +kernel
theorem dX4_be_11 : decode cX4_be 11 = .ok (.bipush (-101), 2) := by decide +kernel
theorem dX4_be_13 : decode cX4_be 13 = .ok (.ireturn, 1) := by decide +kernel
theorem dX4_be_14 : decode cX4_be 14 = .ok (.iload_n 2, 1) := by decide +kernel
theorem dX4_be_15 : decode cX4_be 15 = .ok (.ifCond .lt 8, 3) := by decide +kernel
theorem dX4_be_18 : decode cX4_be 18 = .ok (.iload_n 2, 1) := by decide +kernel
theorem dX4_be_19 : decode cX4_be 19 = .ok (.iconst 5, 1) := by decide +kernel
theorem dX4_be_20 : decode cX4_be 20 = .ok (.if_icmp .lt 6, 3) := by decide +kernel
theorem dX4_be_23 : decode cX4_be 23 = .ok (.bipush (-102), 2) := by decide +kernel
theorem dX4_be_25 : decode cX4_be 25 = .ok (.ireturn, 1) := by decide +kernel
theorem dX4_be_26 : decode cX4_be 26 = .ok (.aload_n 0, 1) := by decide +kernel
theorem dX4_be_27 : decode cX4_be 27 = .ok (.getfield 16, 3) := by decide +kernel
theorem dX4_be_30 : decode cX4_be 30 = .ok (.getfield 73, 3) := by decide +kernel
theorem dX4_be_33 : decode cX4_be 33 = .ok (.iload_n 1, 1) := by decide +kernel
theorem dX4_be_34 : decode cX4_be 34 = .ok (.aaload, 1) := by decide +kernel
theorem dX4_be_35 : decode cX4_be 35 = .ok (.getfield 77, 3) := by decide +kernel
theorem dX4_be_38 : decode cX4_be 38 = .ok (.istore_n 3, 1) := by decide +kernel
theorem dX4_be_39 : decode cX4_be 39 = .ok (.aload_n 0, 1) := by decide +kernel
theorem dX4_be_40 : decode cX4_be 40 = .ok (.getfield 16, 3) := by decide +kernel
theorem dX4_be_43 : decode cX4_be 43 = .ok (.getfield 73, 3) := by decide +kernel
theorem dX4_be_46 : decode cX4_be 46 = .ok (.iload_n 1, 1) := by decide +kernel
theorem dX4_be_47 : decode cX4_be 47 = .ok (.aaload, 1) := by decide +kernel
theorem dX4_be_48 : decode cX4_be 48 = .ok (.iload_n 2, 1) := by decide +kernel
theorem dX4_be_49 : decode cX4_be 49 = .ok (.putfield 77, 3) := by decide +kernel
theorem dX4_be_52 : decode cX4_be 52 = .ok (.aload_n 0, 1) := by decide +kernel
theorem dX4_be_53 : decode cX4_be 53 = .ok (.iconst 0, 1) := by decide +kernel
theorem dX4_be_54 : decode cX4_be 54 = .ok (.putfield 55, 3) := by decide +kernel
theorem dX4_be_57 : decode cX4_be 57 = .ok (.iload_n 3, 1) := by decide +kernel
theorem dX4_be_58 : decode cX4_be 58 = .ok (.ireturn, 1) := by decide +kernel
theorem dX4_canTurn_0 : decode cX4_canTurn 0 = .ok (.getstatic 102, 3) := by decide +kernel
theorem dX4_canTurn_3 : decode cX4_canTurn 3 = .ok (.iload_n 0, 1) := by decide +kernel
theorem dX4_canTurn_4 : decode cX4_canTurn 4 = .ok (.iaload, 1) := by decide +kernel
theorem dX4_canTurn_5 : decode cX4_canTurn 5 = .ok (.iload_n 1, 1) := by decide +kernel
theorem dX4_canTurn_6 : decode cX4_canTurn 6 = .ok (.ishr, 1) := by decide +kernel
theorem dX4_canTurn_7 : decode cX4_canTurn 7 = .ok (.iconst 1, 1) := by decide +kernel
theorem dX4_canTurn_8 : decode cX4_canTurn 8 = .ok (.iand, 1) := by decide +kernel
theorem dX4_canTurn_9 : decode cX4_canTurn 9 = .ok (.iconst 1, 1) := by decide +kernel
theorem dX4_canTurn_10 : decode cX4_canTurn 10 = .ok (.if_icmp .ne 7, 3) := by decide +kernel
theorem dX4_canTurn_13 : decode cX4_canTurn 13 = .ok (.iconst 1, 1) := by decide +kernel
theorem dX4_canTurn_14 : decode cX4_canTurn 14 = .ok (.goto 4, 3) := by decide +kernel
theorem dX4_canTurn_17 : decode cX4_canTurn 17 = .ok (.iconst 0, 1) := by decide +kernel
theorem dX4_canTurn_18 : decode cX4_canTurn 18 = .ok (.ireturn, 1) := by decide +kernel
theorem dX4_turnRow_0 : decode cX4_turnRow 0 = .ok (.iload_n 2, 1) := by decide +kernel
theorem dX4_turnRow_1 : decode cX4_turnRow 1 = .ok (.iconst 4, 1) := by decide +kernel
theorem dX4_turnRow_2 : decode cX4_turnRow 2 = .ok (.if_icmp .ne 7, 3) := by decide +kernel
theorem dX4_turnRow_5 : decode cX4_turnRow 5 = .ok (.iconst 2, 1) := by decide +kernel
theorem dX4_turnRow_6 : decode cX4_turnRow 6 = .ok (.goto 4, 3) := by decide +kernel
theorem dX4_turnRow_9 : decode cX4_turnRow 9 = .ok (.iconst 1, 1) := by decide +kernel
theorem dX4_turnRow_10 : decode cX4_turnRow 10 = .ok (.istore 4, 2) := by decide +kernel
theorem dX4_turnRow_12 : decode cX4_turnRow 12 = .ok (.iload_n 3, 1) := by decide +kernel
theorem dX4_turnRow_13 : decode cX4_turnRow 13 = .ok (.iconst 2, 1) := by decide +kernel
theorem dX4_turnRow_14 : decode cX4_turnRow 14 = .ok (.irem, 1) := by decide +kernel
theorem dX4_turnRow_15 : decode cX4_turnRow 15 = .ok (.ifCond .ne 8, 3) := by decide +kernel
theorem dX4_turnRow_18 : decode cX4_turnRow 18 = .ok (.iload 4, 2) := by decide +kernel
theorem dX4_turnRow_20 : decode cX4_turnRow 20 = .ok (.goto 7, 3) := by decide +kernel
theorem dX4_turnRow_23 : decode cX4_turnRow 23 = .ok (.iconst 4, 1) := by decide +kernel
theorem dX4_turnRow_24 : decode cX4_turnRow 24 = .ok (.iload 4, 2) := by decide +kernel
theorem dX4_turnRow_26 : decode cX4_turnRow 26 = .ok (.isub, 1) := by decide +kernel
theorem dX4_turnRow_27 : decode cX4_turnRow 27 = .ok (.istore 5, 2) := by decide +kernel
theorem dX4_turnRow_29 : decode cX4_turnRow 29 = .ok (.iload_n 3, 1) := by decide +kernel
theorem dX4_turnRow_30 : decode cX4_turnRow 30 = .ok (.iconst 2, 1) := by decide +kernel
theorem dX4_turnRow_31 : decode cX4_turnRow 31 = .ok (.idiv, 1) := by decide +kernel
theorem dX4_turnRow_32 : decode cX4_turnRow 32 = .ok (.iconst 4, 1) := by decide +kernel
theorem dX4_turnRow_33 : decode cX4_turnRow 33 = .ok (.imul, 1) := by decide +kernel
theorem dX4_turnRow_34 : decode cX4_turnRow 34 = .ok (.istore 6, 2) := by decide +kernel
theorem dX4_turnRow_36 : decode cX4_turnRow 36 = .ok (.iconst 0, 1) := by decide +kernel
theorem dX4_turnRow_37 : decode cX4_turnRow 37 = .ok (.istore 7, 2) := by decide +kernel
theorem dX4_turnRow_39 : decode cX4_turnRow 39 = .ok (.iload 7, 2) := by decide +kernel
theorem dX4_turnRow_41 : decode cX4_turnRow 41 = .ok (.iload 5, 2) := by decide +kernel
theorem dX4_turnRow_43 : decode cX4_turnRow 43 = .ok (.if_icmp .ge 79, 3) := by decide +kernel
theorem dX4_turnRow_46 : decode cX4_turnRow 46 = .ok (.aload_n 0, 1) := by decide +kernel
theorem dX4_turnRow_47 : decode cX4_turnRow 47 = .ok (.iload_n 1, 1) := by decide +kernel
theorem dX4_turnRow_48 : decode cX4_turnRow 48 = .ok (.getstatic 134, 3) := by decide +kernel
theorem dX4_turnRow_51 : decode cX4_turnRow 51 = .ok (.iload 6, 2) := by decide +kernel
theorem dX4_turnRow_53 : decode cX4_turnRow 53 = .ok (.iconst 4, 1) := by decide +kernel
theorem dX4_turnRow_54 : decode cX4_turnRow 54 = .ok (.iadd, 1) := by decide +kernel
theorem dX4_turnRow_55 : decode cX4_turnRow 55 = .ok (.iconst 1, 1) := by decide +kernel
theorem dX4_turnRow_56 : decode cX4_turnRow 56 = .ok (.isub, 1) := by decide +kernel
theorem dX4_turnRow_57 : decode cX4_turnRow 57 = .ok (.iaload, 1) := by decide +kernel
theorem dX4_turnRow_58 : decode cX4_turnRow 58 = .ok (.iadd, 1) := by decide +kernel
theorem dX4_turnRow_59 : decode cX4_turnRow 59 = .ok (.iaload, 1) := by decide +kernel
theorem dX4_turnRow_60 : decode cX4_turnRow 60 = .ok (.istore 8, 2) := by decide +kernel
theorem dX4_turnRow_62 : decode cX4_turnRow 62 = .ok (.iconst 3, 1) := by decide +kernel
theorem dX4_turnRow_63 : decode cX4_turnRow 63 = .ok (.istore 9, 2) := by decide +kernel
theorem dX4_turnRow_65 : decode cX4_turnRow 65 = .ok (.iload 9, 2) := by decide +kernel
theorem dX4_turnRow_67 : decode cX4_turnRow 67 = .ok (.ifCond .le 37, 3) := by decide +kernel
theorem dX4_turnRow_70 : decode cX4_turnRow 70 = .ok (.aload_n 0, 1) := by decide +kernel
theorem dX4_turnRow_71 : decode cX4_turnRow 71 = .ok (.iload_n 1, 1) := by decide +kernel
theorem dX4_turnRow_72 : decode cX4_turnRow 72 = .ok (.getstatic 134, 3) := by decide +kernel
theorem dX4_turnRow_75 : decode cX4_turnRow 75 = .ok (.iload 6, 2) := by decide +kernel
theorem dX4_turnRow_77 : decode cX4_turnRow 77 = .ok (.iload 9, 2) := by decide +kernel
theorem dX4_turnRow_79 : decode cX4_turnRow 79 = .ok (.iadd, 1) := by decide +kernel
theorem dX4_turnRow_80 : decode cX4_turnRow 80 = .ok (.iaload, 1) := by decide +kernel
theorem dX4_turnRow_81 : decode cX4_turnRow 81 = .ok (.iadd, 1) := by decide +kernel
theorem dX4_turnRow_82 : decode cX4_turnRow 82 = .ok (.aload_n 0, 1) := by decide +kernel
theorem dX4_turnRow_83 : decode cX4_turnRow 83 = .ok (.iload_n 1, 1) := by decide +kernel
theorem dX4_turnRow_84 : decode cX4_turnRow 84 = .ok (.getstatic 134, 3) := by decide +kernel
theorem dX4_turnRow_87 : decode cX4_turnRow 87 = .ok (.iload 6, 2) := by decide +kernel
theorem dX4_turnRow_89 : decode cX4_turnRow 89 = .ok (.iload 9, 2) := by decide +kernel
theorem dX4_turnRow_91 : decode cX4_turnRow 91 = .ok (.iadd, 1) := by decide +kernel
theorem dX4_turnRow_92 : decode cX4_turnRow 92 = .ok (.iconst 1, 1) := by decide +kernel
theorem dX4_turnRow_93 : decode cX4_turnRow 93 = .ok (.isub, 1) := by decide +kernel
end
section
theorem dX4_turnRow_94 : decode cX4_turnRow 94 = .ok (.iaload, 1) := by decide +kernel
theorem dX4_turnRow_95 : decode cX4_turnRow 95 = .ok (.iadd, 1) := by decide +kernel
theorem dX4_turnRow_96 : decode cX4_turnRow 96 = .ok (.iaload, 1) := by decide +kernel
theorem dX4_turnRow_97 : decode cX4_turnRow 97 = .ok (.iastore, 1) := by decide +kernel
theorem dX4_turnRow_98 : decode cX4_turnRow 98 = .ok (.iinc 9 (-1), 3) := by decide +kernel
theorem dX4_turnRow_101 : decode cX4_turnRow 101 = .ok (.goto (-36), 3) := by decide +kernel
theorem dX4_turnRow_104 : decode cX4_turnRow 104 = .ok (.aload_n 0, 1) := by decide +kernel
theorem dX4_turnRow_105 : decode cX4_turnRow 105 = .ok (.iload_n 1, 1) := by decide +kernel
theorem dX4_turnRow_106 : decode cX4_turnRow 106 = .ok (.getstatic 134, 3) := by decide +kernel
theorem dX4_turnRow_109 : decode cX4_turnRow 109 = .ok (.iload 6, 2) := by decide +kernel
theorem dX4_turnRow_111 : decode cX4_turnRow 111 = .ok (.iaload, 1) := by decide +kernel
theorem dX4_turnRow_112 : decode cX4_turnRow 112 = .ok (.iadd, 1) := by decide +kernel
theorem dX4_turnRow_113 : decode cX4_turnRow 113 = .ok (.iload 8, 2) := by decide +kernel
theorem dX4_turnRow_115 : decode cX4_turnRow 115 = .ok (.iastore, 1) := by decide +kernel
theorem dX4_turnRow_116 : decode cX4_turnRow 116 = .ok (.iinc 7 1, 3) := by decide +kernel
theorem dX4_turnRow_119 : decode cX4_turnRow 119 = .ok (.goto (-80), 3) := by decide +kernel
theorem dX4_turnRow_122 : decode cX4_turnRow 122 = .ok (.return_, 1) := by decide +kernel
set_option maxRecDepth 20000 in
theorem ggX4_ways_X4_lookAround : GoodIn wsX4_ways wsX4_lookAround := goodIn_r _ [10, 11, 3, 1, 12, 13, 14, 15, 16, 17, 18, 19, 20, 21, 22, 23, 24, 25, 26, 27, 28, 29, 30, 31, 32, 33, 34, 35, 36, 37, 38, 39, 40, 41, 42, 43, 44, 45, 46, 47, 48, 49, 50, 51, 52, 53, 54, 55, 56, 57, 58, 59, 60, 61, 62, 63, 64, 65, 66, 67, 68, 69, 70, 71, 72, 77, 78, 79, 80, 81, 82, 83, 84, 85, 86, 87, 88, 89, 73, 74, 75, 76, 90, 91, 92] (by decide +kernel) (by decide +kernel)
set_option maxRecDepth 20000 in
theorem gX4_ways_X4_lookAround : GoodIn wsX4_ways (wsV RX4 137 RX4 yX4_lookAround wsX4_lookAround) := goodIn_app (goodIn_of _ (by decide +kernel)) ggX4_ways_X4_lookAround
theorem dX4_ways_0 : decode cX4_ways 0 = .ok (.iload_n 1, 1) := by decide +kernel
theorem dX4_ways_1 : decode cX4_ways 1 = .ok (.ifCond .lt 8, 3) := by decide +kernel
theorem dX4_ways_4 : decode cX4_ways 4 = .ok (.iload_n 1, 1) := by decide +kernel
theorem dX4_ways_5 : decode cX4_ways 5 = .ok (.iconst 1, 1) := by decide +kernel
theorem dX4_ways_6 : decode cX4_ways 6 = .ok (.if_icmp .le 6, 3) := by decide +kernel
theorem dX4_ways_9 : decode cX4_ways 9 = .ok (.bipush (-102), 2) := by decide +kernel
theorem dX4_ways_11 : decode cX4_ways 11 = .ok (.ireturn, 1) := by decide +kernel
theorem dX4_ways_12 : decode cX4_ways 12 = .ok (.aload_n 0, 1) := by decide +kernel
theorem dX4_ways_13 : decode cX4_ways 13 = .ok (.getfield 16, 3) := by decide +kernel
theorem dX4_ways_16 : decode cX4_ways 16 = .ok (.getfield 52, 3) := by decide +kernel
theorem dX4_ways_19 : decode cX4_ways 19 = .ok (.ifCond .ne 6, 3) := by decide +kernel
theorem dX4_ways_22 : decode cX4_ways 22 = .ok (.bipush (-103), 2) := by decide +kernel
theorem dX4_ways_24 : decode cX4_ways 24 = .ok (.ireturn, 1) := by decide +kernel
theorem dX4_ways_25 : decode cX4_ways 25 = .ok (.aload_n 0, 1) := by decide +kernel
theorem dX4_ways_26 : decode cX4_ways 26 = .ok (.invokevirtual 137, 3) := by decide +kernel
theorem dX4_ways_29 : decode cX4_ways 29 = .ok (.iload_n 1, 1) := by decide +kernel
theorem dX4_ways_30 : decode cX4_ways 30 = .ok (.ifCond .ne 13, 3) := by decide +kernel
theorem dX4_ways_33 : decode cX4_ways 33 = .ok (.aload_n 0, 1) := by decide +kernel
theorem dX4_ways_34 : decode cX4_ways 34 = .ok (.getfield 29, 3) := by decide +kernel
theorem dX4_ways_37 : decode cX4_ways 37 = .ok (.getfield 140, 3) := by decide +kernel
theorem dX4_ways_40 : decode cX4_ways 40 = .ok (.goto 10, 3) := by decide +kernel
theorem dX4_ways_43 : decode cX4_ways 43 = .ok (.aload_n 0, 1) := by decide +kernel
theorem dX4_ways_44 : decode cX4_ways 44 = .ok (.getfield 29, 3) := by decide +kernel
theorem dX4_ways_47 : decode cX4_ways 47 = .ok (.getfield 143, 3) := by decide +kernel
theorem dX4_ways_50 : decode cX4_ways 50 = .ok (.ireturn, 1) := by decide +kernel
set_option maxRecDepth 20000 in
theorem ggX4_turning_X4_lookAround : GoodIn wsX4_turning wsX4_lookAround := goodIn_r _ [10, 11, 3, 1, 12, 13, 14, 15, 16, 17, 18, 19, 20, 21, 22, 23, 24, 25, 26, 27, 28, 29, 30, 31, 32, 33, 34, 35, 36, 37, 38, 39, 40, 41, 42, 43, 44, 45, 46, 47, 48, 49, 50, 51, 52, 53, 54, 55, 56, 57, 58, 59, 60, 61, 62, 63, 72, 73, 74, 75, 76, 77, 78, 79, 80, 85, 86, 87, 88, 89, 90, 91, 92, 93, 94, 95, 96, 97, 81, 82, 83, 84, 98, 99, 100] (by decide +kernel) (by decide +kernel)
set_option maxRecDepth 20000 in
theorem gX4_turning_X4_lookAround : GoodIn wsX4_turning (wsV RX4 137 RX4 yX4_lookAround wsX4_lookAround) := goodIn_app (goodIn_of _ (by decide +kernel)) ggX4_turning_X4_lookAround
set_option maxRecDepth 20000 in
theorem ggX4_turning_X1_firstTurn : GoodIn wsX4_turning wsX1_firstTurn := goodIn_r _ [67, 19, 68, 69, 45, 70, 71, 85, 86, 87, 88, 89, 90, 91, 92, 93] (by decide +kernel) (by decide +kernel)
set_option maxRecDepth 20000 in
theorem gX4_turning_X1_firstTurn : GoodIn wsX4_turning (wsV RX4 149 RX1 yX1_firstTurn wsX1_firstTurn) := goodIn_app (goodIn_of _ (by decide +kernel)) ggX4_turning_X1_firstTurn
theorem dX4_turning_0 : decode cX4_turning 0 = .ok (.iload_n 1, 1) := by decide +kernel
theorem dX4_turning_1 : decode cX4_turning 1 = .ok (.ifCond .lt 8, 3) := by decide +kernel
theorem dX4_turning_4 : decode cX4_turning 4 = .ok (.iload_n 1, 1) := by decide +kernel
theorem dX4_turning_5 : decode cX4_turning 5 = .ok (.iconst 1, 1) := by decide +kernel
theorem dX4_turning_6 : decode cX4_turning 6 = .ok (.if_icmp .le 6, 3) := by decide +kernel
theorem dX4_turning_9 : decode cX4_turning 9 = .ok (.bipush (-102), 2) := by decide +kernel
theorem dX4_turning_11 : decode cX4_turning 11 = .ok (.ireturn, 1) := by decide +kernel
theorem dX4_turning_12 : decode cX4_turning 12 = .ok (.aload_n 0, 1) := by decide +kernel
theorem dX4_turning_13 : decode cX4_turning 13 = .ok (.getfield 16, 3) := by decide +kernel
theorem dX4_turning_16 : decode cX4_turning 16 = .ok (.getfield 52, 3) := by decide +kernel
theorem dX4_turning_19 : decode cX4_turning 19 = .ok (.ifCond .ne 6, 3) := by decide +kernel
theorem dX4_turning_22 : decode cX4_turning 22 = .ok (.bipush (-103), 2) := by decide +kernel
theorem dX4_turning_24 : decode cX4_turning 24 = .ok (.ireturn, 1) := by decide +kernel
theorem dX4_turning_25 : decode cX4_turning 25 = .ok (.aload_n 0, 1) := by decide +kernel
theorem dX4_turning_26 : decode cX4_turning 26 = .ok (.invokevirtual 137, 3) := by decide +kernel
theorem dX4_turning_29 : decode cX4_turning 29 = .ok (.aload_n 0, 1) := by decide +kernel
theorem dX4_turning_30 : decode cX4_turning 30 = .ok (.getfield 29, 3) := by decide +kernel
theorem dX4_turning_33 : decode cX4_turning 33 = .ok (.getfield 140, 3) := by decide +kernel
theorem dX4_turning_36 : decode cX4_turning 36 = .ok (.ifCond .ne 5, 3) := by decide +kernel
theorem dX4_turning_39 : decode cX4_turning 39 = .ok (.iconst (-1), 1) := by decide +kernel
theorem dX4_turning_40 : decode cX4_turning 40 = .ok (.ireturn, 1) := by decide +kernel
theorem dX4_turning_41 : decode cX4_turning 41 = .ok (.iload_n 1, 1) := by decide +kernel
theorem dX4_turning_42 : decode cX4_turning 42 = .ok (.ifCond .ne 13, 3) := by decide +kernel
theorem dX4_turning_45 : decode cX4_turning 45 = .ok (.aload_n 0, 1) := by decide +kernel
theorem dX4_turning_46 : decode cX4_turning 46 = .ok (.getfield 29, 3) := by decide +kernel
theorem dX4_turning_49 : decode cX4_turning 49 = .ok (.getfield 146, 3) := by decide +kernel
theorem dX4_turning_52 : decode cX4_turning 52 = .ok (.goto 10, 3) := by decide +kernel
theorem dX4_turning_55 : decode cX4_turning 55 = .ok (.aload_n 0, 1) := by decide +kernel
theorem dX4_turning_56 : decode cX4_turning 56 = .ok (.getfield 29, 3) := by decide +kernel
theorem dX4_turning_59 : decode cX4_turning 59 = .ok (.invokevirtual 149, 3) := by decide +kernel
theorem dX4_turning_62 : decode cX4_turning 62 = .ok (.ireturn, 1) := by decide +kernel
set_option maxRecDepth 20000 in
theorem ggX4_repaint_X4_lookAround : GoodIn wsX4_repaint wsX4_lookAround := goodIn_r _ [10, 11, 4, 1, 12, 13, 14, 15, 16, 17, 18, 19, 20, 21, 22, 23, 24, 25, 26, 27, 28, 29, 30, 31, 32, 33, 34, 35, 36, 37, 38, 39, 40, 41, 42, 43, 44, 45, 46, 47, 48, 49, 50, 51, 52, 53, 54, 55, 56, 57, 58, 59, 60, 61, 62, 63, 92, 93, 94, 95, 96, 97, 98, 99, 100, 105, 106, 107, 108, 109, 110, 111, 112, 113, 114, 115, 116, 117, 101, 102, 103, 104, 118, 119, 120] (by decide +kernel) (by decide +kernel)
set_option maxRecDepth 20000 in
theorem gX4_repaint_X4_lookAround : GoodIn wsX4_repaint (wsV RX4 137 RX4 yX4_lookAround wsX4_lookAround) := goodIn_app (goodIn_of _ (by decide +kernel)) ggX4_repaint_X4_lookAround
set_option maxRecDepth 20000 in
theorem ggX4_repaint_X1_sideToPaint : GoodIn wsX4_repaint wsX1_sideToPaint := goodIn_r _ [67, 68, 69, 70, 15, 71, 72, 22, 23, 24, 73, 74, 75, 76, 77, 78, 79, 80, 81, 82, 83, 84, 85, 86, 87, 88, 89, 45, 90, 91, 105, 106, 107, 108, 109, 110, 111, 112, 113, 114, 115, 116, 117] (by decide +kernel) (by decide +kernel)
set_option maxRecDepth 20000 in
theorem gX4_repaint_X1_sideToPaint : GoodIn wsX4_repaint (wsV RX4 155 RX1 yX1_sideToPaint wsX1_sideToPaint) := goodIn_app (goodIn_of _ (by decide +kernel)) ggX4_repaint_X1_sideToPaint
theorem dX4_repaint_0 : decode cX4_repaint 0 = .ok (.aload_n 0, 1) := by decide +kernel
theorem dX4_repaint_1 : decode cX4_repaint 1 = .ok (.getfield 16, 3) := by decide +kernel
theorem dX4_repaint_4 : decode cX4_repaint 4 = .ok (.getfield 52, 3) := by decide +kernel
theorem dX4_repaint_7 : decode cX4_repaint 7 = .ok (.ifCond .eq 12, 3) := by decide +kernel
theorem dX4_repaint_10 : decode cX4_repaint 10 = .ok (.aload_n 0, 1) := by decide +kernel
theorem dX4_repaint_11 : decode cX4_repaint 11 = .ok (.getfield 152, 3) := by decide +kernel
theorem dX4_repaint_14 : decode cX4_repaint 14 = .ok (.bipush 10, 2) := by decide +kernel
theorem dX4_repaint_16 : decode cX4_repaint 16 = .ok (.if_icmp .lt 6, 3) := by decide +kernel
theorem dX4_repaint_19 : decode cX4_repaint 19 = .ok (.bipush (-103), 2) := by decide +kernel
theorem dX4_repaint_21 : decode cX4_repaint 21 = .ok (.ireturn, 1) := by decide +kernel
theorem dX4_repaint_22 : decode cX4_repaint 22 = .ok (.aload_n 0, 1) := by decide +kernel
theorem dX4_repaint_23 : decode cX4_repaint 23 = .ok (.dup, 1) := by decide +kernel
theorem dX4_repaint_24 : decode cX4_repaint 24 = .ok (.getfield 152, 3) := by decide +kernel
theorem dX4_repaint_27 : decode cX4_repaint 27 = .ok (.iconst 1, 1) := by decide +kernel
theorem dX4_repaint_28 : decode cX4_repaint 28 = .ok (.iadd, 1) := by decide +kernel
theorem dX4_repaint_29 : decode cX4_repaint 29 = .ok (.putfield 152, 3) := by decide +kernel
theorem dX4_repaint_32 : decode cX4_repaint 32 = .ok (.aload_n 0, 1) := by decide +kernel
theorem dX4_repaint_33 : decode cX4_repaint 33 = .ok (.invokevirtual 137, 3) := by decide +kernel
theorem dX4_repaint_36 : decode cX4_repaint 36 = .ok (.aload_n 0, 1) := by decide +kernel
theorem dX4_repaint_37 : decode cX4_repaint 37 = .ok (.getfield 29, 3) := by decide +kernel
theorem dX4_repaint_40 : decode cX4_repaint 40 = .ok (.getfield 140, 3) := by decide +kernel
theorem dX4_repaint_43 : decode cX4_repaint 43 = .ok (.ifCond .le 8, 3) := by decide +kernel
theorem dX4_repaint_46 : decode cX4_repaint 46 = .ok (.bipush (-2), 2) := by decide +kernel
theorem dX4_repaint_48 : decode cX4_repaint 48 = .ok (.goto 17, 3) := by decide +kernel
theorem dX4_repaint_51 : decode cX4_repaint 51 = .ok (.aload_n 0, 1) := by decide +kernel
theorem dX4_repaint_52 : decode cX4_repaint 52 = .ok (.getfield 29, 3) := by decide +kernel
theorem dX4_repaint_55 : decode cX4_repaint 55 = .ok (.aload_n 0, 1) := by decide +kernel
theorem dX4_repaint_56 : decode cX4_repaint 56 = .ok (.getfield 16, 3) := by decide +kernel
theorem dX4_repaint_59 : decode cX4_repaint 59 = .ok (.getfield 52, 3) := by decide +kernel
theorem dX4_repaint_62 : decode cX4_repaint 62 = .ok (.invokevirtual 155, 3) := by decide +kernel
theorem dX4_repaint_65 : decode cX4_repaint 65 = .ok (.ireturn, 1) := by decide +kernel
set_option maxRecDepth 20000 in
theorem ggX4_odds_X4_lookAround : GoodIn wsX4_odds wsX4_lookAround := goodIn_r _ [9, 10, 3, 1, 11, 12, 13, 14, 15, 16, 17, 18, 19, 20, 21, 22, 23, 24, 25, 26, 27, 28, 29, 30, 31, 32, 33, 34, 35, 36, 37, 38, 39, 40, 41, 42, 43, 44, 45, 46, 47, 48, 49, 50, 51, 52, 53, 54, 55, 56, 57, 58, 59, 60, 61, 62, 70, 71, 72, 73, 74, 75, 76, 77, 78, 83, 84, 85, 86, 87, 88, 89, 90, 91, 92, 93, 94, 95, 79, 80, 81, 82, 96, 97, 98] (by decide +kernel) (by decide +kernel)
set_option maxRecDepth 20000 in
theorem gX4_odds_X4_lookAround : GoodIn wsX4_odds (wsV RX4 137 RX4 yX4_lookAround wsX4_lookAround) := goodIn_app (goodIn_of _ (by decide +kernel)) ggX4_odds_X4_lookAround
set_option maxRecDepth 20000 in
theorem ggX4_odds_X1_allWays : GoodIn wsX4_odds wsX1_allWays := goodIn_r _ [66, 21, 22, 83, 84, 85, 86, 87, 88, 89, 90, 91, 92, 93, 94, 95] (by decide +kernel) (by decide +kernel)
set_option maxRecDepth 20000 in
theorem gX4_odds_X1_allWays : GoodIn wsX4_odds (wsV RX4 158 RX1 yX1_allWays wsX1_allWays) := goodIn_app (goodIn_of _ (by decide +kernel)) ggX4_odds_X1_allWays
set_option maxRecDepth 20000 in
theorem ggX4_odds_X4_commonDivisor : GoodIn wsX4_odds wsX4_commonDivisor := goodIn_r _ [69] (by decide +kernel) (by decide +kernel)
set_option maxRecDepth 20000 in
theorem gX4_odds_X4_commonDivisor : GoodIn wsX4_odds (va_wsS RX4 161 yX4_commonDivisor wsX4_commonDivisor) := goodIn_app (goodIn_of _ (by decide +kernel)) ggX4_odds_X4_commonDivisor
theorem dX4_odds_0 : decode cX4_odds 0 = .ok (.iload_n 1, 1) := by decide +kernel
theorem dX4_odds_1 : decode cX4_odds 1 = .ok (.ifCond .lt 8, 3) := by decide +kernel
theorem dX4_odds_4 : decode cX4_odds 4 = .ok (.iload_n 1, 1) := by decide +kernel
theorem dX4_odds_5 : decode cX4_odds 5 = .ok (.iconst 1, 1) := by decide +kernel
theorem dX4_odds_6 : decode cX4_odds 6 = .ok (.if_icmp .le 6, 3) := by decide +kernel
theorem dX4_odds_9 : decode cX4_odds 9 = .ok (.bipush (-102), 2) := by decide +kernel
theorem dX4_odds_11 : decode cX4_odds 11 = .ok (.ireturn, 1) := by decide +kernel
theorem dX4_odds_12 : decode cX4_odds 12 = .ok (.aload_n 0, 1) := by decide +kernel
theorem dX4_odds_13 : decode cX4_odds 13 = .ok (.getfield 16, 3) := by decide +kernel
theorem dX4_odds_16 : decode cX4_odds 16 = .ok (.getfield 52, 3) := by decide +kernel
theorem dX4_odds_19 : decode cX4_odds 19 = .ok (.ifCond .ne 6, 3) := by decide +kernel
theorem dX4_odds_22 : decode cX4_odds 22 = .ok (.bipush (-103), 2) := by decide +kernel
theorem dX4_odds_24 : decode cX4_odds 24 = .ok (.ireturn, 1) := by decide +kernel
theorem dX4_odds_25 : decode cX4_odds 25 = .ok (.aload_n 0, 1) := by decide +kernel
theorem dX4_odds_26 : decode cX4_odds 26 = .ok (.invokevirtual 137, 3) := by decide +kernel
theorem dX4_odds_29 : decode cX4_odds 29 = .ok (.aload_n 0, 1) := by decide +kernel
theorem dX4_odds_30 : decode cX4_odds 30 = .ok (.getfield 29, 3) := by decide +kernel
theorem dX4_odds_33 : decode cX4_odds 33 = .ok (.invokevirtual 158, 3) := by decide +kernel
theorem dX4_odds_36 : decode cX4_odds 36 = .ok (.istore_n 2, 1) := by decide +kernel
theorem dX4_odds_37 : decode cX4_odds 37 = .ok (.iload_n 2, 1) := by decide +kernel
theorem dX4_odds_38 : decode cX4_odds 38 = .ok (.aload_n 0, 1) := by decide +kernel
theorem dX4_odds_39 : decode cX4_odds 39 = .ok (.getfield 29, 3) := by decide +kernel
theorem dX4_odds_42 : decode cX4_odds 42 = .ok (.getfield 140, 3) := by decide +kernel
theorem dX4_odds_45 : decode cX4_odds 45 = .ok (.invokestatic 161, 3) := by decide +kernel
theorem dX4_odds_48 : decode cX4_odds 48 = .ok (.istore_n 3, 1) := by decide +kernel
theorem dX4_odds_49 : decode cX4_odds 49 = .ok (.iload_n 1, 1) := by decide +kernel
theorem dX4_odds_50 : decode cX4_odds 50 = .ok (.ifCond .ne 13, 3) := by decide +kernel
theorem dX4_odds_53 : decode cX4_odds 53 = .ok (.aload_n 0, 1) := by decide +kernel
theorem dX4_odds_54 : decode cX4_odds 54 = .ok (.getfield 29, 3) := by decide +kernel
theorem dX4_odds_57 : decode cX4_odds 57 = .ok (.getfield 140, 3) := by decide +kernel
theorem dX4_odds_60 : decode cX4_odds 60 = .ok (.goto 4, 3) := by decide +kernel
theorem dX4_odds_63 : decode cX4_odds 63 = .ok (.iload_n 2, 1) := by decide +kernel
theorem dX4_odds_64 : decode cX4_odds 64 = .ok (.istore 4, 2) := by decide +kernel
theorem dX4_odds_66 : decode cX4_odds 66 = .ok (.iload_n 3, 1) := by decide +kernel
theorem dX4_odds_67 : decode cX4_odds 67 = .ok (.ifCond .le 10, 3) := by decide +kernel
theorem dX4_odds_70 : decode cX4_odds 70 = .ok (.iload 4, 2) := by decide +kernel
theorem dX4_odds_72 : decode cX4_odds 72 = .ok (.iload_n 3, 1) := by decide +kernel
theorem dX4_odds_73 : decode cX4_odds 73 = .ok (.idiv, 1) := by decide +kernel
theorem dX4_odds_74 : decode cX4_odds 74 = .ok (.goto 5, 3) := by decide +kernel
theorem dX4_odds_77 : decode cX4_odds 77 = .ok (.iload 4, 2) := by decide +kernel
theorem dX4_odds_79 : decode cX4_odds 79 = .ok (.ireturn, 1) := by decide +kernel
set_option maxRecDepth 20000 in
theorem ggX4_lookAround_X1_look : GoodIn wsX4_lookAround wsX1_look := goodIn_r _ [8, 9, 10, 11, 12, 13, 14, 15, 16, 17, 18, 19, 7, 20, 21, 22, 23, 24, 25, 26, 27, 28, 29, 30, 31, 32, 33, 34, 35, 36, 37, 38, 39, 40, 41, 42, 43, 44, 45, 46, 47, 48, 49, 50, 51, 52, 53, 54, 55, 65, 66, 67, 68, 69, 70, 71, 72, 73, 74, 75, 76, 77, 78, 79, 80, 81, 82, 83, 84] (by decide +kernel) (by decide +kernel)
set_option maxRecDepth 20000 in
theorem gX4_lookAround_X1_look : GoodIn wsX4_lookAround (wsV RX4 164 RX1 yX1_look wsX1_look) := goodIn_app (goodIn_of _ (by decide +kernel)) ggX4_lookAround_X1_look
theorem dX4_lookAround_0 : decode cX4_lookAround 0 = .ok (.aload_n 0, 1) := by decide +kernel
theorem dX4_lookAround_1 : decode cX4_lookAround 1 = .ok (.getfield 55, 3) := by decide +kernel
theorem dX4_lookAround_4 : decode cX4_lookAround 4 = .ok (.ifCond .ne 19, 3) := by decide +kernel
theorem dX4_lookAround_7 : decode cX4_lookAround 7 = .ok (.aload_n 0, 1) := by decide +kernel
theorem dX4_lookAround_8 : decode cX4_lookAround 8 = .ok (.getfield 29, 3) := by decide +kernel
theorem dX4_lookAround_11 : decode cX4_lookAround 11 = .ok (.aload_n 0, 1) := by decide +kernel
theorem dX4_lookAround_12 : decode cX4_lookAround 12 = .ok (.getfield 16, 3) := by decide +kernel
theorem dX4_lookAround_15 : decode cX4_lookAround 15 = .ok (.invokevirtual 164, 3) := by decide +kernel
theorem dX4_lookAround_18 : decode cX4_lookAround 18 = .ok (.aload_n 0, 1) := by decide +kernel
theorem dX4_lookAround_19 : decode cX4_lookAround 19 = .ok (.iconst 1, 1) := by decide +kernel
theorem dX4_lookAround_20 : decode cX4_lookAround 20 = .ok (.putfield 55, 3) := by decide +kernel
theorem dX4_lookAround_23 : decode cX4_lookAround 23 = .ok (.return_, 1) := by decide +kernel
theorem dX4_commonDivisor_0 : decode cX4_commonDivisor 0 = .ok (.iload_n 0, 1) := by decide +kernel
theorem dX4_commonDivisor_1 : decode cX4_commonDivisor 1 = .ok (.istore_n 2, 1) := by decide +kernel
theorem dX4_commonDivisor_2 : decode cX4_commonDivisor 2 = .ok (.iload_n 1, 1) := by decide +kernel
theorem dX4_commonDivisor_3 : decode cX4_commonDivisor 3 = .ok (.istore_n 3, 1) := by decide +kernel
theorem dX4_commonDivisor_4 : decode cX4_commonDivisor 4 = .ok (.iconst 0, 1) := by decide +kernel
theorem dX4_commonDivisor_5 : decode cX4_commonDivisor 5 = .ok (.istore 4, 2) := by decide +kernel
theorem dX4_commonDivisor_7 : decode cX4_commonDivisor 7 = .ok (.iload 4, 2) := by decide +kernel
theorem dX4_commonDivisor_9 : decode cX4_commonDivisor 9 = .ok (.bipush 64, 2) := by decide +kernel
theorem dX4_commonDivisor_11 : decode cX4_commonDivisor 11 = .ok (.if_icmp .ge 23, 3) := by decide +kernel
theorem dX4_commonDivisor_14 : decode cX4_commonDivisor 14 = .ok (.iload_n 3, 1) := by decide +kernel
theorem dX4_commonDivisor_15 : decode cX4_commonDivisor 15 = .ok (.ifCond .eq 19, 3) := by decide +kernel
theorem dX4_commonDivisor_18 : decode cX4_commonDivisor 18 = .ok (.iload_n 2, 1) := by decide +kernel
theorem dX4_commonDivisor_19 : decode cX4_commonDivisor 19 = .ok (.iload_n 3, 1) := by decide +kernel
theorem dX4_commonDivisor_20 : decode cX4_commonDivisor 20 = .ok (.irem, 1) := by decide +kernel
theorem dX4_commonDivisor_21 : decode cX4_commonDivisor 21 = .ok (.istore 5, 2) := by decide +kernel
theorem dX4_commonDivisor_23 : decode cX4_commonDivisor 23 = .ok (.iload_n 3, 1) := by decide +kernel
theorem dX4_commonDivisor_24 : decode cX4_commonDivisor 24 = .ok (.istore_n 2, 1) := by decide +kernel
theorem dX4_commonDivisor_25 : decode cX4_commonDivisor 25 = .ok (.iload 5, 2) := by decide +kernel
theorem dX4_commonDivisor_27 : decode cX4_commonDivisor 27 = .ok (.istore_n 3, 1) := by decide +kernel
theorem dX4_commonDivisor_28 : decode cX4_commonDivisor 28 = .ok (.iinc 4 1, 3) := by decide +kernel
theorem dX4_commonDivisor_31 : decode cX4_commonDivisor 31 = .ok (.goto (-24), 3) := by decide +kernel
theorem dX4_commonDivisor_34 : decode cX4_commonDivisor 34 = .ok (.iload_n 2, 1) := by decide +kernel
theorem dX4_commonDivisor_35 : decode cX4_commonDivisor 35 = .ok (.ireturn, 1) := by decide +kernel
set_option maxRecDepth 20000 in
theorem ggX4_see_X2_has : GoodIn wsX4_see wsX2_has := goodIn_r _ [10, 11, 21, 22, 23, 24] (by decide +kernel) (by decide +kernel)
set_option maxRecDepth 20000 in
theorem gX4_see_X2_has : GoodIn wsX4_see (wsV RX4 85 RX2 yX2_has wsX2_has) := goodIn_app (goodIn_of _ (by decide +kernel)) ggX4_see_X2_has
theorem dX4_see_0 : decode cX4_see 0 = .ok (.aload_n 0, 1) := by decide +kernel
theorem dX4_see_1 : decode cX4_see 1 = .ok (.getfield 16, 3) := by decide +kernel
theorem dX4_see_4 : decode cX4_see 4 = .ok (.iload_n 1, 1) := by decide +kernel
theorem dX4_see_5 : decode cX4_see 5 = .ok (.invokevirtual 85, 3) := by decide +kernel
theorem dX4_see_8 : decode cX4_see 8 = .ok (.ifCond .ne 6, 3) := by decide +kernel
theorem dX4_see_11 : decode cX4_see 11 = .ok (.bipush (-101), 2) := by decide +kernel
theorem dX4_see_13 : decode cX4_see 13 = .ok (.ireturn, 1) := by decide +kernel
theorem dX4_see_14 : decode cX4_see 14 = .ok (.iload_n 2, 1) := by decide +kernel
theorem dX4_see_15 : decode cX4_see 15 = .ok (.ifCond .lt 8, 3) := by decide +kernel
theorem dX4_see_18 : decode cX4_see 18 = .ok (.iload_n 2, 1) := by decide +kernel
theorem dX4_see_19 : decode cX4_see 19 = .ok (.iconst 3, 1) := by decide +kernel
theorem dX4_see_20 : decode cX4_see 20 = .ok (.if_icmp .lt 6, 3) := by decide +kernel
theorem dX4_see_23 : decode cX4_see 23 = .ok (.bipush (-102), 2) := by decide +kernel
theorem dX4_see_25 : decode cX4_see 25 = .ok (.ireturn, 1) := by decide +kernel
theorem dX4_see_26 : decode cX4_see 26 = .ok (.aload_n 0, 1) := by decide +kernel
theorem dX4_see_27 : decode cX4_see 27 = .ok (.getfield 16, 3) := by decide +kernel
theorem dX4_see_30 : decode cX4_see 30 = .ok (.getfield 168, 3) := by decide +kernel
theorem dX4_see_33 : decode cX4_see 33 = .ok (.bipush 6, 2) := by decide +kernel
theorem dX4_see_35 : decode cX4_see 35 = .ok (.if_icmp .lt 6, 3) := by decide +kernel
theorem dX4_see_38 : decode cX4_see 38 = .ok (.bipush (-104), 2) := by decide +kernel
theorem dX4_see_40 : decode cX4_see 40 = .ok (.ireturn, 1) := by decide +kernel
theorem dX4_see_41 : decode cX4_see 41 = .ok (.getstatic 111, 3) := by decide +kernel
theorem dX4_see_44 : decode cX4_see 44 = .ok (.iload_n 2, 1) := by decide +kernel
theorem dX4_see_45 : decode cX4_see 45 = .ok (.iaload, 1) := by decide +kernel
theorem dX4_see_46 : decode cX4_see 46 = .ok (.istore 4, 2) := by decide +kernel
theorem dX4_see_48 : decode cX4_see 48 = .ok (.aload_n 0, 1) := by decide +kernel
theorem dX4_see_49 : decode cX4_see 49 = .ok (.getfield 16, 3) := by decide +kernel
theorem dX4_see_52 : decode cX4_see 52 = .ok (.getfield 73, 3) := by decide +kernel
theorem dX4_see_55 : decode cX4_see 55 = .ok (.iload_n 1, 1) := by decide +kernel
theorem dX4_see_56 : decode cX4_see 56 = .ok (.aaload, 1) := by decide +kernel
theorem dX4_see_57 : decode cX4_see 57 = .ok (.dup, 1) := by decide +kernel
theorem dX4_see_58 : decode cX4_see 58 = .ok (.getfield 96, 3) := by decide +kernel
theorem dX4_see_61 : decode cX4_see 61 = .ok (.iload_n 3, 1) := by decide +kernel
theorem dX4_see_62 : decode cX4_see 62 = .ok (.ifCond .eq 8, 3) := by decide +kernel
theorem dX4_see_65 : decode cX4_see 65 = .ok (.iload 4, 2) := by decide +kernel
theorem dX4_see_67 : decode cX4_see 67 = .ok (.goto 7, 3) := by decide +kernel
theorem dX4_see_70 : decode cX4_see 70 = .ok (.iload 4, 2) := by decide +kernel
theorem dX4_see_72 : decode cX4_see 72 = .ok (.iconst (-1), 1) := by decide +kernel
theorem dX4_see_73 : decode cX4_see 73 = .ok (.ixor, 1) := by decide +kernel
theorem dX4_see_74 : decode cX4_see 74 = .ok (.iand, 1) := by decide +kernel
theorem dX4_see_75 : decode cX4_see 75 = .ok (.putfield 96, 3) := by decide +kernel
theorem dX4_see_78 : decode cX4_see 78 = .ok (.aload_n 0, 1) := by decide +kernel
theorem dX4_see_79 : decode cX4_see 79 = .ok (.getfield 16, 3) := by decide +kernel
theorem dX4_see_82 : decode cX4_see 82 = .ok (.dup, 1) := by decide +kernel
theorem dX4_see_83 : decode cX4_see 83 = .ok (.getfield 168, 3) := by decide +kernel
theorem dX4_see_86 : decode cX4_see 86 = .ok (.iconst 1, 1) := by decide +kernel
theorem dX4_see_87 : decode cX4_see 87 = .ok (.iadd, 1) := by decide +kernel
theorem dX4_see_88 : decode cX4_see 88 = .ok (.putfield 168, 3) := by decide +kernel
theorem dX4_see_91 : decode cX4_see 91 = .ok (.aload_n 0, 1) := by decide +kernel
theorem dX4_see_92 : decode cX4_see 92 = .ok (.getfield 16, 3) := by decide +kernel
theorem dX4_see_95 : decode cX4_see 95 = .ok (.getfield 168, 3) := by decide +kernel
theorem dX4_see_98 : decode cX4_see 98 = .ok (.ireturn, 1) := by decide +kernel
set_option maxRecDepth 20000 in
theorem ggX4_forget_X2_forgetAll : GoodIn wsX4_forget wsX2_forgetAll := goodIn_r _ [7, 8, 9, 10, 20, 21, 22, 23, 24, 25, 26] (by decide +kernel) (by decide +kernel)
set_option maxRecDepth 20000 in
theorem gX4_forget_X2_forgetAll : GoodIn wsX4_forget (wsV RX4 70 RX2 yX2_forgetAll wsX2_forgetAll) := goodIn_app (goodIn_of _ (by decide +kernel)) ggX4_forget_X2_forgetAll
theorem dX4_forget_0 : decode cX4_forget 0 = .ok (.aload_n 0, 1) := by decide +kernel
theorem dX4_forget_1 : decode cX4_forget 1 = .ok (.getfield 16, 3) := by decide +kernel
theorem dX4_forget_4 : decode cX4_forget 4 = .ok (.getfield 168, 3) := by decide +kernel
theorem dX4_forget_7 : decode cX4_forget 7 = .ok (.istore_n 1, 1) := by decide +kernel
theorem dX4_forget_8 : decode cX4_forget 8 = .ok (.aload_n 0, 1) := by decide +kernel
theorem dX4_forget_9 : decode cX4_forget 9 = .ok (.getfield 16, 3) := by decide +kernel
theorem dX4_forget_12 : decode cX4_forget 12 = .ok (.invokevirtual 70, 3) := by decide +kernel
theorem dX4_forget_15 : decode cX4_forget 15 = .ok (.iload_n 1, 1) := by decide +kernel
theorem dX4_forget_16 : decode cX4_forget 16 = .ok (.ireturn, 1) := by decide +kernel
set_option maxRecDepth 20000 in
theorem ggX4_runs_X2_copyFrom : GoodIn wsX4_runs wsX2_copyFrom := goodIn_r _ [10, 11, 12, 13, 14, 15, 16, 17, 18, 19, 20, 21, 22, 23, 24, 25, 26, 71, 72, 73, 74, 75, 76, 77] (by decide +kernel) (by decide +kernel)
set_option maxRecDepth 20000 in
theorem gX4_runs_X2_copyFrom : GoodIn wsX4_runs (wsV RX4 171 RX2 yX2_copyFrom wsX2_copyFrom) := goodIn_app (goodIn_of _ (by decide +kernel)) ggX4_runs_X2_copyFrom
set_option maxRecDepth 20000 in
theorem ggX4_runs_X4_nextSeed : GoodIn wsX4_runs wsX4_nextSeed := goodIn_r _ [30, 31, 32, 33] (by decide +kernel) (by decide +kernel)
set_option maxRecDepth 20000 in
theorem gX4_runs_X4_nextSeed : GoodIn wsX4_runs (va_wsS RX4 174 yX4_nextSeed wsX4_nextSeed) := goodIn_app (goodIn_of _ (by decide +kernel)) ggX4_runs_X4_nextSeed
set_option maxRecDepth 20000 in
theorem ggX4_runs_X4_draw : GoodIn wsX4_runs wsX4_draw := goodIn_r _ [36, 37] (by decide +kernel) (by decide +kernel)
set_option maxRecDepth 20000 in
theorem gX4_runs_X4_draw : GoodIn wsX4_runs (va_wsS RX4 177 yX4_draw wsX4_draw) := goodIn_app (goodIn_of _ (by decide +kernel)) ggX4_runs_X4_draw
set_option maxRecDepth 20000 in
theorem ggX4_runs_X2_has : GoodIn wsX4_runs wsX2_has := goodIn_r _ [41, 11, 71, 72, 73, 74] (by decide +kernel) (by decide +kernel)
set_option maxRecDepth 20000 in
theorem gX4_runs_X2_has : GoodIn wsX4_runs (wsV RX4 85 RX2 yX2_has wsX2_has) := goodIn_app (goodIn_of _ (by decide +kernel)) ggX4_runs_X2_has
set_option maxRecDepth 20000 in
theorem ggX4_runs_X4_canTurn : GoodIn wsX4_runs wsX4_canTurn := goodIn_r _ [44, 45] (by decide +kernel) (by decide +kernel)
set_option maxRecDepth 20000 in
theorem gX4_runs_X4_canTurn : GoodIn wsX4_runs (va_wsS RX4 125 yX4_canTurn wsX4_canTurn) := goodIn_app (goodIn_of _ (by decide +kernel)) ggX4_runs_X4_canTurn
set_option maxRecDepth 20000 in
theorem ggX4_runs_X0_turnOver : GoodIn wsX4_runs wsX0_turnOver := goodIn_r _ [49, 22, 20, 50, 29, 51, 52, 75, 76, 77] (by decide +kernel) (by decide +kernel)
set_option maxRecDepth 20000 in
theorem gX4_runs_X0_turnOver : GoodIn wsX4_runs (wsV RX4 128 RX0 yX0_turnOver wsX0_turnOver) := goodIn_app (goodIn_of _ (by decide +kernel)) ggX4_runs_X0_turnOver
set_option maxRecDepth 20000 in
theorem ggX4_runs_X2_clashes : GoodIn wsX4_runs wsX2_clashes := goodIn_r _ [56, 57, 58, 59, 9, 60, 11, 14, 61, 71, 72, 73, 74, 75, 76, 77] (by decide +kernel) (by decide +kernel)
set_option maxRecDepth 20000 in
theorem gX4_runs_X2_clashes : GoodIn wsX4_runs (wsV RX4 131 RX2 yX2_clashes wsX2_clashes) := goodIn_app (goodIn_of _ (by decide +kernel)) ggX4_runs_X2_clashes
theorem dX4_runs_0 : decode cX4_runs 0 = .ok (.iload_n 1, 1) := by decide +kernel
theorem dX4_runs_1 : decode cX4_runs 1 = .ok (.iconst 1, 1) := by decide +kernel
theorem dX4_runs_2 : decode cX4_runs 2 = .ok (.if_icmp .lt 22, 3) := by decide +kernel
theorem dX4_runs_5 : decode cX4_runs 5 = .ok (.iload_n 1, 1) := by decide +kernel
theorem dX4_runs_6 : decode cX4_runs 6 = .ok (.bipush 99, 2) := by decide +kernel
theorem dX4_runs_8 : decode cX4_runs 8 = .ok (.if_icmp .gt 16, 3) := by decide +kernel
theorem dX4_runs_11 : decode cX4_runs 11 = .ok (.iload_n 2, 1) := by decide +kernel
theorem dX4_runs_12 : decode cX4_runs 12 = .ok (.ifCond .lt 12, 3) := by decide +kernel
theorem dX4_runs_15 : decode cX4_runs 15 = .ok (.iload_n 3, 1) := by decide +kernel
theorem dX4_runs_16 : decode cX4_runs 16 = .ok (.ifCond .lt 8, 3) := by decide +kernel
theorem dX4_runs_19 : decode cX4_runs 19 = .ok (.iload_n 3, 1) := by decide +kernel
theorem dX4_runs_20 : decode cX4_runs 20 = .ok (.iconst 2, 1) := by decide +kernel
theorem dX4_runs_21 : decode cX4_runs 21 = .ok (.if_icmp .le 6, 3) := by decide +kernel
theorem dX4_runs_24 : decode cX4_runs 24 = .ok (.bipush (-102), 2) := by decide +kernel
theorem dX4_runs_26 : decode cX4_runs 26 = .ok (.ireturn, 1) := by decide +kernel
theorem dX4_runs_27 : decode cX4_runs 27 = .ok (.aload_n 0, 1) := by decide +kernel
theorem dX4_runs_28 : decode cX4_runs 28 = .ok (.getfield 16, 3) := by decide +kernel
theorem dX4_runs_31 : decode cX4_runs 31 = .ok (.getfield 52, 3) := by decide +kernel
theorem dX4_runs_34 : decode cX4_runs 34 = .ok (.ifCond .ne 6, 3) := by decide +kernel
theorem dX4_runs_37 : decode cX4_runs 37 = .ok (.bipush (-103), 2) := by decide +kernel
theorem dX4_runs_39 : decode cX4_runs 39 = .ok (.ireturn, 1) := by decide +kernel
theorem dX4_runs_40 : decode cX4_runs 40 = .ok (.aload_n 0, 1) := by decide +kernel
theorem dX4_runs_41 : decode cX4_runs 41 = .ok (.getfield 23, 3) := by decide +kernel
theorem dX4_runs_44 : decode cX4_runs 44 = .ok (.aload_n 0, 1) := by decide +kernel
theorem dX4_runs_45 : decode cX4_runs 45 = .ok (.getfield 16, 3) := by decide +kernel
theorem dX4_runs_48 : decode cX4_runs 48 = .ok (.invokevirtual 171, 3) := by decide +kernel
theorem dX4_runs_51 : decode cX4_runs 51 = .ok (.iload_n 2, 1) := by decide +kernel
theorem dX4_runs_52 : decode cX4_runs 52 = .ok (.istore 4, 2) := by decide +kernel
theorem dX4_runs_54 : decode cX4_runs 54 = .ok (.iconst 0, 1) := by decide +kernel
theorem dX4_runs_55 : decode cX4_runs 55 = .ok (.istore 5, 2) := by decide +kernel
theorem dX4_runs_57 : decode cX4_runs 57 = .ok (.iconst 0, 1) := by decide +kernel
theorem dX4_runs_58 : decode cX4_runs 58 = .ok (.istore 6, 2) := by decide +kernel
theorem dX4_runs_60 : decode cX4_runs 60 = .ok (.iload 6, 2) := by decide +kernel
theorem dX4_runs_62 : decode cX4_runs 62 = .ok (.iload_n 1, 1) := by decide +kernel
theorem dX4_runs_63 : decode cX4_runs 63 = .ok (.if_icmp .ge 106, 3) := by decide +kernel
theorem dX4_runs_66 : decode cX4_runs 66 = .ok (.iload 4, 2) := by decide +kernel
theorem dX4_runs_68 : decode cX4_runs 68 = .ok (.invokestatic 174, 3) := by decide +kernel
theorem dX4_runs_71 : decode cX4_runs 71 = .ok (.istore 4, 2) := by decide +kernel
theorem dX4_runs_73 : decode cX4_runs 73 = .ok (.iload 4, 2) := by decide +kernel
theorem dX4_runs_75 : decode cX4_runs 75 = .ok (.aload_n 0, 1) := by decide +kernel
theorem dX4_runs_76 : decode cX4_runs 76 = .ok (.getfield 23, 3) := by decide +kernel
theorem dX4_runs_79 : decode cX4_runs 79 = .ok (.getfield 52, 3) := by decide +kernel
theorem dX4_runs_82 : decode cX4_runs 82 = .ok (.invokestatic 177, 3) := by decide +kernel
theorem dX4_runs_85 : decode cX4_runs 85 = .ok (.istore 7, 2) := by decide +kernel
theorem dX4_runs_87 : decode cX4_runs 87 = .ok (.iload 4, 2) := by decide +kernel
theorem dX4_runs_89 : decode cX4_runs 89 = .ok (.invokestatic 174, 3) := by decide +kernel
theorem dX4_runs_92 : decode cX4_runs 92 = .ok (.istore 4, 2) := by decide +kernel
theorem dX4_runs_94 : decode cX4_runs 94 = .ok (.iload 4, 2) := by decide +kernel
theorem dX4_runs_96 : decode cX4_runs 96 = .ok (.iconst 4, 1) := by decide +kernel
theorem dX4_runs_97 : decode cX4_runs 97 = .ok (.invokestatic 177, 3) := by decide +kernel
theorem dX4_runs_100 : decode cX4_runs 100 = .ok (.istore 8, 2) := by decide +kernel
theorem dX4_runs_102 : decode cX4_runs 102 = .ok (.aload_n 0, 1) := by decide +kernel
theorem dX4_runs_103 : decode cX4_runs 103 = .ok (.getfield 23, 3) := by decide +kernel
theorem dX4_runs_106 : decode cX4_runs 106 = .ok (.iload 7, 2) := by decide +kernel
theorem dX4_runs_108 : decode cX4_runs 108 = .ok (.invokevirtual 85, 3) := by decide +kernel
theorem dX4_runs_111 : decode cX4_runs 111 = .ok (.ifCond .eq 39, 3) := by decide +kernel
theorem dX4_runs_114 : decode cX4_runs 114 = .ok (.aload_n 0, 1) := by decide +kernel
theorem dX4_runs_115 : decode cX4_runs 115 = .ok (.getfield 23, 3) := by decide +kernel
theorem dX4_runs_118 : decode cX4_runs 118 = .ok (.getfield 73, 3) := by decide +kernel
theorem dX4_runs_121 : decode cX4_runs 121 = .ok (.iload 7, 2) := by decide +kernel
theorem dX4_runs_123 : decode cX4_runs 123 = .ok (.aaload, 1) := by decide +kernel
theorem dX4_runs_124 : decode cX4_runs 124 = .ok (.getfield 77, 3) := by decide +kernel
theorem dX4_runs_127 : decode cX4_runs 127 = .ok (.iload 8, 2) := by decide +kernel
theorem dX4_runs_129 : decode cX4_runs 129 = .ok (.invokestatic 125, 3) := by decide +kernel
theorem dX4_runs_132 : decode cX4_runs 132 = .ok (.ifCond .eq 18, 3) := by decide +kernel
theorem dX4_runs_135 : decode cX4_runs 135 = .ok (.aload_n 0, 1) := by decide +kernel
theorem dX4_runs_136 : decode cX4_runs 136 = .ok (.getfield 23, 3) := by decide +kernel
theorem dX4_runs_139 : decode cX4_runs 139 = .ok (.getfield 73, 3) := by decide +kernel
theorem dX4_runs_142 : decode cX4_runs 142 = .ok (.iload 7, 2) := by decide +kernel
theorem dX4_runs_144 : decode cX4_runs 144 = .ok (.aaload, 1) := by decide +kernel
theorem dX4_runs_145 : decode cX4_runs 145 = .ok (.iload 8, 2) := by decide +kernel
theorem dX4_runs_147 : decode cX4_runs 147 = .ok (.invokevirtual 128, 3) := by decide +kernel
theorem dX4_runs_150 : decode cX4_runs 150 = .ok (.aload_n 0, 1) := by decide +kernel
theorem dX4_runs_151 : decode cX4_runs 151 = .ok (.getfield 23, 3) := by decide +kernel
theorem dX4_runs_154 : decode cX4_runs 154 = .ok (.invokevirtual 131, 3) := by decide +kernel
theorem dX4_runs_157 : decode cX4_runs 157 = .ok (.ifCond .ne 6, 3) := by decide +kernel
theorem dX4_runs_160 : decode cX4_runs 160 = .ok (.iinc 5 1, 3) := by decide +kernel
theorem dX4_runs_163 : decode cX4_runs 163 = .ok (.iinc 6 1, 3) := by decide +kernel
theorem dX4_runs_166 : decode cX4_runs 166 = .ok (.goto (-106), 3) := by decide +kernel
theorem dX4_runs_169 : decode cX4_runs 169 = .ok (.iload_n 3, 1) := by decide +kernel
theorem dX4_runs_170 : decode cX4_runs 170 = .ok (.ifCond .ne 8, 3) := by decide +kernel
theorem dX4_runs_173 : decode cX4_runs 173 = .ok (.iload 5, 2) := by decide +kernel
theorem dX4_runs_175 : decode cX4_runs 175 = .ok (.goto 20, 3) := by decide +kernel
theorem dX4_runs_178 : decode cX4_runs 178 = .ok (.iload_n 3, 1) := by decide +kernel
theorem dX4_runs_179 : decode cX4_runs 179 = .ok (.iconst 1, 1) := by decide +kernel
theorem dX4_runs_180 : decode cX4_runs 180 = .ok (.if_icmp .ne 13, 3) := by decide +kernel
theorem dX4_runs_183 : decode cX4_runs 183 = .ok (.aload_n 0, 1) := by decide +kernel
theorem dX4_runs_184 : decode cX4_runs 184 = .ok (.getfield 23, 3) := by decide +kernel
theorem dX4_runs_187 : decode cX4_runs 187 = .ok (.invokevirtual 131, 3) := by decide +kernel
theorem dX4_runs_190 : decode cX4_runs 190 = .ok (.goto 5, 3) := by decide +kernel
theorem dX4_runs_193 : decode cX4_runs 193 = .ok (.iload 4, 2) := by decide +kernel
theorem dX4_runs_195 : decode cX4_runs 195 = .ok (.ireturn, 1) := by decide +kernel
theorem dX4_nextSeed_0 : decode cX4_nextSeed 0 = .ok (.ldc2_w 180, 3) := by decide +kernel
theorem dX4_nextSeed_3 : decode cX4_nextSeed 3 = .ok (.iload_n 0, 1) := by decide +kernel
theorem dX4_nextSeed_4 : decode cX4_nextSeed 4 = .ok (.i2l, 1) := by decide +kernel
theorem dX4_nextSeed_5 : decode cX4_nextSeed 5 = .ok (.lmul, 1) := by decide +kernel
theorem dX4_nextSeed_6 : decode cX4_nextSeed 6 = .ok (.ldc2_w 182, 3) := by decide +kernel
theorem dX4_nextSeed_9 : decode cX4_nextSeed 9 = .ok (.ladd, 1) := by decide +kernel
theorem dX4_nextSeed_10 : decode cX4_nextSeed 10 = .ok (.ldc2_w 184, 3) := by decide +kernel
theorem dX4_nextSeed_13 : decode cX4_nextSeed 13 = .ok (.land, 1) := by decide +kernel
theorem dX4_nextSeed_14 : decode cX4_nextSeed 14 = .ok (.l2i, 1) := by decide +kernel
theorem dX4_nextSeed_15 : decode cX4_nextSeed 15 = .ok (.ireturn, 1) := by decide +kernel
theorem dX4_draw_0 : decode cX4_draw 0 = .ok (.iload_n 1, 1) := by decide +kernel
theorem dX4_draw_1 : decode cX4_draw 1 = .ok (.ifCond .le 12, 3) := by decide +kernel
theorem dX4_draw_4 : decode cX4_draw 4 = .ok (.iload_n 0, 1) := by decide +kernel
theorem dX4_draw_5 : decode cX4_draw 5 = .ok (.ldc 186, 2) := by decide +kernel
theorem dX4_draw_7 : decode cX4_draw 7 = .ok (.idiv, 1) := by decide +kernel
theorem dX4_draw_8 : decode cX4_draw 8 = .ok (.iload_n 1, 1) := by decide +kernel
theorem dX4_draw_9 : decode cX4_draw 9 = .ok (.irem, 1) := by decide +kernel
theorem dX4_draw_10 : decode cX4_draw 10 = .ok (.goto 4, 3) := by decide +kernel
theorem dX4_draw_13 : decode cX4_draw 13 = .ok (.iconst 0, 1) := by decide +kernel
theorem dX4_draw_14 : decode cX4_draw 14 = .ok (.ireturn, 1) := by decide +kernel
set_option maxRecDepth 20000 in
theorem ggX4_image_X2_copyFrom : GoodIn wsX4_image wsX2_copyFrom := goodIn_r _ [9, 10, 11, 12, 13, 14, 15, 16, 17, 18, 19, 20, 21, 22, 23, 24, 25, 35, 36, 37, 38, 39, 40, 41] (by decide +kernel) (by decide +kernel)
set_option maxRecDepth 20000 in
theorem gX4_image_X2_copyFrom : GoodIn wsX4_image (wsV RX4 171 RX2 yX2_copyFrom wsX2_copyFrom) := goodIn_app (goodIn_of _ (by decide +kernel)) ggX4_image_X2_copyFrom
theorem dX4_image_0 : decode cX4_image 0 = .ok (.aload_n 0, 1) := by decide +kernel
theorem dX4_image_1 : decode cX4_image 1 = .ok (.getfield 16, 3) := by decide +kernel
theorem dX4_image_4 : decode cX4_image 4 = .ok (.getfield 52, 3) := by decide +kernel
theorem dX4_image_7 : decode cX4_image 7 = .ok (.ifCond .ne 6, 3) := by decide +kernel
theorem dX4_image_10 : decode cX4_image 10 = .ok (.bipush (-103), 2) := by decide +kernel
theorem dX4_image_12 : decode cX4_image 12 = .ok (.ireturn, 1) := by decide +kernel
theorem dX4_image_13 : decode cX4_image 13 = .ok (.aload_n 0, 1) := by decide +kernel
theorem dX4_image_14 : decode cX4_image 14 = .ok (.getfield 20, 3) := by decide +kernel
theorem dX4_image_17 : decode cX4_image 17 = .ok (.aload_n 0, 1) := by decide +kernel
theorem dX4_image_18 : decode cX4_image 18 = .ok (.getfield 16, 3) := by decide +kernel
theorem dX4_image_21 : decode cX4_image 21 = .ok (.invokevirtual 171, 3) := by decide +kernel
theorem dX4_image_24 : decode cX4_image 24 = .ok (.aload_n 0, 1) := by decide +kernel
theorem dX4_image_25 : decode cX4_image 25 = .ok (.getfield 20, 3) := by decide +kernel
theorem dX4_image_28 : decode cX4_image 28 = .ok (.getfield 67, 3) := by decide +kernel
theorem dX4_image_31 : decode cX4_image 31 = .ok (.ireturn, 1) := by decide +kernel
set_option maxRecDepth 20000 in
theorem ggX4_restore_X2_copyFrom : GoodIn wsX4_restore wsX2_copyFrom := goodIn_r _ [10, 11, 12, 13, 14, 15, 16, 17, 18, 19, 20, 21, 22, 23, 24, 25, 26, 36, 37, 38, 39, 40, 41, 42] (by decide +kernel) (by decide +kernel)
set_option maxRecDepth 20000 in
theorem gX4_restore_X2_copyFrom : GoodIn wsX4_restore (wsV RX4 171 RX2 yX2_copyFrom wsX2_copyFrom) := goodIn_app (goodIn_of _ (by decide +kernel)) ggX4_restore_X2_copyFrom
theorem dX4_restore_0 : decode cX4_restore 0 = .ok (.aload_n 0, 1) := by decide +kernel
theorem dX4_restore_1 : decode cX4_restore 1 = .ok (.getfield 20, 3) := by decide +kernel
theorem dX4_restore_4 : decode cX4_restore 4 = .ok (.getfield 52, 3) := by decide +kernel
theorem dX4_restore_7 : decode cX4_restore 7 = .ok (.ifCond .ne 6, 3) := by decide +kernel
theorem dX4_restore_10 : decode cX4_restore 10 = .ok (.bipush (-103), 2) := by decide +kernel
theorem dX4_restore_12 : decode cX4_restore 12 = .ok (.ireturn, 1) := by decide +kernel
theorem dX4_restore_13 : decode cX4_restore 13 = .ok (.aload_n 0, 1) := by decide +kernel
theorem dX4_restore_14 : decode cX4_restore 14 = .ok (.getfield 16, 3) := by decide +kernel
theorem dX4_restore_17 : decode cX4_restore 17 = .ok (.aload_n 0, 1) := by decide +kernel
theorem dX4_restore_18 : decode cX4_restore 18 = .ok (.getfield 20, 3) := by decide +kernel
theorem dX4_restore_21 : decode cX4_restore 21 = .ok (.invokevirtual 171, 3) := by decide +kernel
theorem dX4_restore_24 : decode cX4_restore 24 = .ok (.aload_n 0, 1) := by decide +kernel
theorem dX4_restore_25 : decode cX4_restore 25 = .ok (.iconst 0, 1) := by decide +kernel
theorem dX4_restore_26 : decode cX4_restore 26 = .ok (.putfield 55, 3) := by decide +kernel
theorem dX4_restore_29 : decode cX4_restore 29 = .ok (.aload_n 0, 1) := by decide +kernel
theorem dX4_restore_30 : decode cX4_restore 30 = .ok (.getfield 16, 3) := by decide +kernel
theorem dX4_restore_33 : decode cX4_restore 33 = .ok (.getfield 67, 3) := by decide +kernel
theorem dX4_restore_36 : decode cX4_restore 36 = .ok (.ireturn, 1) := by decide +kernel
set_option maxRecDepth 20000 in
theorem ggX4_count_X2_clashes : GoodIn wsX4_count wsX2_clashes := goodIn_r _ [12, 13, 14, 15, 11, 16, 17, 18, 19, 44, 45, 46, 47, 48, 49, 50] (by decide +kernel) (by decide +kernel)
set_option maxRecDepth 20000 in
theorem gX4_count_X2_clashes : GoodIn wsX4_count (wsV RX4 131 RX2 yX2_clashes wsX2_clashes) := goodIn_app (goodIn_of _ (by decide +kernel)) ggX4_count_X2_clashes
set_option maxRecDepth 20000 in
theorem ggX4_count_X2_goodWalls : GoodIn wsX4_count wsX2_goodWalls := goodIn_r _ [23, 17, 13, 14, 15, 11, 16, 18, 19, 44, 45, 46, 47, 48, 49, 50] (by decide +kernel) (by decide +kernel)
set_option maxRecDepth 20000 in
theorem gX4_count_X2_goodWalls : GoodIn wsX4_count (wsV RX4 187 RX2 yX2_goodWalls wsX2_goodWalls) := goodIn_app (goodIn_of _ (by decide +kernel)) ggX4_count_X2_goodWalls
set_option maxRecDepth 20000 in
theorem ggX4_count_X2_coloursUsed : GoodIn wsX4_count wsX2_coloursUsed := goodIn_r _ [27, 17, 18, 19, 28, 29, 30, 31, 32, 33, 34, 44, 45, 46, 47, 48, 49, 50] (by decide +kernel) (by decide +kernel)
set_option maxRecDepth 20000 in
theorem gX4_count_X2_coloursUsed : GoodIn wsX4_count (wsV RX4 190 RX2 yX2_coloursUsed wsX2_coloursUsed) := goodIn_app (goodIn_of _ (by decide +kernel)) ggX4_count_X2_coloursUsed
theorem dX4_count_0 : decode cX4_count 0 = .ok (.iload_n 1, 1) := by decide +kernel
theorem dX4_count_1 : decode cX4_count 1 = .ok (.tableswitch 114 0 8 #[51, 59, 67, 75, 83, 91, 99, 104, 109], 51) := by decide +kernel
theorem dX4_count_52 : decode cX4_count 52 = .ok (.aload_n 0, 1) := by decide +kernel
theorem dX4_count_53 : decode cX4_count 53 = .ok (.getfield 16, 3) := by decide +kernel
theorem dX4_count_56 : decode cX4_count 56 = .ok (.getfield 52, 3) := by decide +kernel
theorem dX4_count_59 : decode cX4_count 59 = .ok (.ireturn, 1) := by decide +kernel
theorem dX4_count_60 : decode cX4_count 60 = .ok (.aload_n 0, 1) := by decide +kernel
theorem dX4_count_61 : decode cX4_count 61 = .ok (.getfield 16, 3) := by decide +kernel
theorem dX4_count_64 : decode cX4_count 64 = .ok (.invokevirtual 131, 3) := by decide +kernel
theorem dX4_count_67 : decode cX4_count 67 = .ok (.ireturn, 1) := by decide +kernel
theorem dX4_count_68 : decode cX4_count 68 = .ok (.aload_n 0, 1) := by decide +kernel
theorem dX4_count_69 : decode cX4_count 69 = .ok (.getfield 16, 3) := by decide +kernel
theorem dX4_count_72 : decode cX4_count 72 = .ok (.invokevirtual 187, 3) := by decide +kernel
theorem dX4_count_75 : decode cX4_count 75 = .ok (.ireturn, 1) := by decide +kernel
theorem dX4_count_76 : decode cX4_count 76 = .ok (.aload_n 0, 1) := by decide +kernel
theorem dX4_count_77 : decode cX4_count 77 = .ok (.getfield 16, 3) := by decide +kernel
theorem dX4_count_80 : decode cX4_count 80 = .ok (.invokevirtual 190, 3) := by decide +kernel
theorem dX4_count_83 : decode cX4_count 83 = .ok (.ireturn, 1) := by decide +kernel
theorem dX4_count_84 : decode cX4_count 84 = .ok (.aload_n 0, 1) := by decide +kernel
theorem dX4_count_85 : decode cX4_count 85 = .ok (.getfield 16, 3) := by decide +kernel
theorem dX4_count_88 : decode cX4_count 88 = .ok (.getfield 67, 3) := by decide +kernel
theorem dX4_count_91 : decode cX4_count 91 = .ok (.ireturn, 1) := by decide +kernel
theorem dX4_count_92 : decode cX4_count 92 = .ok (.aload_n 0, 1) := by decide +kernel
theorem dX4_count_93 : decode cX4_count 93 = .ok (.getfield 16, 3) := by decide +kernel
theorem dX4_count_96 : decode cX4_count 96 = .ok (.getfield 168, 3) := by decide +kernel
theorem dX4_count_99 : decode cX4_count 99 = .ok (.ireturn, 1) := by decide +kernel
theorem dX4_count_100 : decode cX4_count 100 = .ok (.aload_n 0, 1) := by decide +kernel
theorem dX4_count_101 : decode cX4_count 101 = .ok (.getfield 33, 3) := by decide +kernel
theorem dX4_count_104 : decode cX4_count 104 = .ok (.ireturn, 1) := by decide +kernel
theorem dX4_count_105 : decode cX4_count 105 = .ok (.aload_n 0, 1) := by decide +kernel
theorem dX4_count_106 : decode cX4_count 106 = .ok (.getfield 49, 3) := by decide +kernel
theorem dX4_count_109 : decode cX4_count 109 = .ok (.ireturn, 1) := by decide +kernel
theorem dX4_count_110 : decode cX4_count 110 = .ok (.aload_n 0, 1) := by decide +kernel
theorem dX4_count_111 : decode cX4_count 111 = .ok (.getfield 152, 3) := by decide +kernel
theorem dX4_count_114 : decode cX4_count 114 = .ok (.ireturn, 1) := by decide +kernel
theorem dX4_count_115 : decode cX4_count 115 = .ok (.bipush (-102), 2) := by decide +kernel
theorem dX4_count_117 : decode cX4_count 117 = .ok (.ireturn, 1) := by decide +kernel
set_option maxRecDepth 20000 in
theorem ggX4_digest_X4_addCube : GoodIn wsX4_digest wsX4_addCube := goodIn_r _ [11, 5, 12, 13, 14, 10, 15, 2, 16, 17, 18, 19, 20, 21, 22, 23, 24, 25, 26, 27, 28, 29, 30, 31, 32, 33, 34, 35, 36, 37, 38, 39, 40, 41, 42, 43, 44, 156, 157, 158, 159, 160, 161, 162, 163, 164, 165, 166, 167, 168, 169, 170, 171, 172, 173, 174, 175, 176, 177, 178, 179, 180, 181, 182, 183, 184] (by decide +kernel) (by decide +kernel)
set_option maxRecDepth 20000 in
theorem gX4_digest_X4_addCube : GoodIn wsX4_digest (wsV RX4 195 RX4 yX4_addCube wsX4_addCube) := goodIn_app (goodIn_of _ (by decide +kernel)) ggX4_digest_X4_addCube
set_option maxRecDepth 20000 in
theorem ggX4_digest_X4_addWholeTower : GoodIn wsX4_digest wsX4_addWholeTower := goodIn_r _ [48, 5, 49, 50, 51, 10, 52, 2, 3, 53, 54, 55, 27, 56, 29, 57, 58, 59, 60, 61, 62, 19, 63, 64, 65, 66, 67, 68, 69, 70, 71, 72, 73, 74, 75, 76, 77, 78, 79, 80, 81, 82, 83, 84, 85, 86, 87, 88, 89, 90, 25, 26, 28, 91, 92, 93, 94, 95, 96, 39, 40, 41, 42, 43, 44, 97, 98, 99, 100, 101, 102, 36, 103, 104, 105, 106, 107, 108, 109, 110, 111, 112, 113, 114, 115, 116, 117, 118, 119, 120, 121, 122, 123, 124, 125, 126, 127, 128, 129, 130, 131, 132, 133, 156, 157, 158, 159, 160, 161, 162, 163, 164, 165, 166, 167, 168, 169, 170, 171, 172, 173, 174, 175, 176, 177, 178, 179, 180, 181, 182, 183, 184] (by decide +kernel) (by decide +kernel)
set_option maxRecDepth 20000 in
theorem gX4_digest_X4_addWholeTower : GoodIn wsX4_digest (wsV RX4 199 RX4 yX4_addWholeTower wsX4_addWholeTower) := goodIn_app (goodIn_of _ (by decide +kernel)) ggX4_digest_X4_addWholeTower
set_option maxRecDepth 20000 in
theorem ggX4_digest_X4_count : GoodIn wsX4_digest wsX4_count := goodIn_r _ [137, 2, 3, 138, 139, 4, 140, 141, 142, 143, 144, 27, 145, 146, 54, 55, 56, 29, 57, 58, 147, 148, 149, 150, 151, 152, 153, 154, 155, 39, 40, 41, 42, 43, 44, 156, 157, 158, 159, 160, 161, 162, 163, 164, 165, 166, 167, 168, 169, 170, 171] (by decide +kernel) (by decide +kernel)
set_option maxRecDepth 20000 in
theorem gX4_digest_X4_count : GoodIn wsX4_digest (wsV RX4 205 RX4 yX4_count wsX4_count) := goodIn_app (goodIn_of _ (by decide +kernel)) ggX4_digest_X4_count
theorem dX4_digest_0 : decode cX4_digest 0 = .ok (.ldc2_w 193, 3) := by decide +kernel
theorem dX4_digest_3 : decode cX4_digest 3 = .ok (.lstore_n 1, 1) := by decide +kernel
theorem dX4_digest_4 : decode cX4_digest 4 = .ok (.iconst 0, 1) := by decide +kernel
theorem dX4_digest_5 : decode cX4_digest 5 = .ok (.istore_n 3, 1) := by decide +kernel
theorem dX4_digest_6 : decode cX4_digest 6 = .ok (.iload_n 3, 1) := by decide +kernel
theorem dX4_digest_7 : decode cX4_digest 7 = .ok (.aload_n 0, 1) := by decide +kernel
theorem dX4_digest_8 : decode cX4_digest 8 = .ok (.getfield 16, 3) := by decide +kernel
theorem dX4_digest_11 : decode cX4_digest 11 = .ok (.getfield 52, 3) := by decide +kernel
theorem dX4_digest_14 : decode cX4_digest 14 = .ok (.if_icmp .ge 16, 3) := by decide +kernel
theorem dX4_digest_17 : decode cX4_digest 17 = .ok (.aload_n 0, 1) := by decide +kernel
theorem dX4_digest_18 : decode cX4_digest 18 = .ok (.lload_n 1, 1) := by decide +kernel
theorem dX4_digest_19 : decode cX4_digest 19 = .ok (.iload_n 3, 1) := by decide +kernel
theorem dX4_digest_20 : decode cX4_digest 20 = .ok (.invokevirtual 195, 3) := by decide +kernel
theorem dX4_digest_23 : decode cX4_digest 23 = .ok (.lstore_n 1, 1) := by decide +kernel
theorem dX4_digest_24 : decode cX4_digest 24 = .ok (.iinc 3 1, 3) := by decide +kernel
theorem dX4_digest_27 : decode cX4_digest 27 = .ok (.goto (-21), 3) := by decide +kernel
theorem dX4_digest_30 : decode cX4_digest 30 = .ok (.aload_n 0, 1) := by decide +kernel
theorem dX4_digest_31 : decode cX4_digest 31 = .ok (.getfield 16, 3) := by decide +kernel
theorem dX4_digest_34 : decode cX4_digest 34 = .ok (.getfield 52, 3) := by decide +kernel
theorem dX4_digest_37 : decode cX4_digest 37 = .ok (.ifCond .le 9, 3) := by decide +kernel
theorem dX4_digest_40 : decode cX4_digest 40 = .ok (.aload_n 0, 1) := by decide +kernel
theorem dX4_digest_41 : decode cX4_digest 41 = .ok (.lload_n 1, 1) := by decide +kernel
theorem dX4_digest_42 : decode cX4_digest 42 = .ok (.invokevirtual 199, 3) := by decide +kernel
theorem dX4_digest_45 : decode cX4_digest 45 = .ok (.lstore_n 1, 1) := by decide +kernel
theorem dX4_digest_46 : decode cX4_digest 46 = .ok (.iconst 0, 1) := by decide +kernel
theorem dX4_digest_47 : decode cX4_digest 47 = .ok (.istore_n 3, 1) := by decide +kernel
theorem dX4_digest_48 : decode cX4_digest 48 = .ok (.iload_n 3, 1) := by decide +kernel
theorem dX4_digest_49 : decode cX4_digest 49 = .ok (.aload_n 0, 1) := by decide +kernel
theorem dX4_digest_50 : decode cX4_digest 50 = .ok (.getfield 33, 3) := by decide +kernel
theorem dX4_digest_53 : decode cX4_digest 53 = .ok (.if_icmp .ge 23, 3) := by decide +kernel
theorem dX4_digest_56 : decode cX4_digest 56 = .ok (.ldc2_w 203, 3) := by decide +kernel
theorem dX4_digest_59 : decode cX4_digest 59 = .ok (.lload_n 1, 1) := by decide +kernel
theorem dX4_digest_60 : decode cX4_digest 60 = .ok (.lmul, 1) := by decide +kernel
theorem dX4_digest_61 : decode cX4_digest 61 = .ok (.aload_n 0, 1) := by decide +kernel
theorem dX4_digest_62 : decode cX4_digest 62 = .ok (.getfield 9, 3) := by decide +kernel
theorem dX4_digest_65 : decode cX4_digest 65 = .ok (.iload_n 3, 1) := by decide +kernel
theorem dX4_digest_66 : decode cX4_digest 66 = .ok (.iaload, 1) := by decide +kernel
theorem dX4_digest_67 : decode cX4_digest 67 = .ok (.i2l, 1) := by decide +kernel
theorem dX4_digest_68 : decode cX4_digest 68 = .ok (.ladd, 1) := by decide +kernel
theorem dX4_digest_69 : decode cX4_digest 69 = .ok (.lstore_n 1, 1) := by decide +kernel
theorem dX4_digest_70 : decode cX4_digest 70 = .ok (.iinc 3 1, 3) := by decide +kernel
theorem dX4_digest_73 : decode cX4_digest 73 = .ok (.goto (-25), 3) := by decide +kernel
theorem dX4_digest_76 : decode cX4_digest 76 = .ok (.iconst 0, 1) := by decide +kernel
theorem dX4_digest_77 : decode cX4_digest 77 = .ok (.istore_n 3, 1) := by decide +kernel
theorem dX4_digest_78 : decode cX4_digest 78 = .ok (.iload_n 3, 1) := by decide +kernel
theorem dX4_digest_79 : decode cX4_digest 79 = .ok (.bipush 8, 2) := by decide +kernel
theorem dX4_digest_81 : decode cX4_digest 81 = .ok (.if_icmp .gt 22, 3) := by decide +kernel
theorem dX4_digest_84 : decode cX4_digest 84 = .ok (.ldc2_w 203, 3) := by decide +kernel
theorem dX4_digest_87 : decode cX4_digest 87 = .ok (.lload_n 1, 1) := by decide +kernel
theorem dX4_digest_88 : decode cX4_digest 88 = .ok (.lmul, 1) := by decide +kernel
theorem dX4_digest_89 : decode cX4_digest 89 = .ok (.aload_n 0, 1) := by decide +kernel
theorem dX4_digest_90 : decode cX4_digest 90 = .ok (.iload_n 3, 1) := by decide +kernel
theorem dX4_digest_91 : decode cX4_digest 91 = .ok (.invokevirtual 205, 3) := by decide +kernel
theorem dX4_digest_94 : decode cX4_digest 94 = .ok (.i2l, 1) := by decide +kernel
theorem dX4_digest_95 : decode cX4_digest 95 = .ok (.ladd, 1) := by decide +kernel
theorem dX4_digest_96 : decode cX4_digest 96 = .ok (.lstore_n 1, 1) := by decide +kernel
theorem dX4_digest_97 : decode cX4_digest 97 = .ok (.iinc 3 1, 3) := by decide +kernel
theorem dX4_digest_100 : decode cX4_digest 100 = .ok (.goto (-22), 3) := by decide +kernel
theorem dX4_digest_103 : decode cX4_digest 103 = .ok (.lload_n 1, 1) := by decide +kernel
theorem dX4_digest_104 : decode cX4_digest 104 = .ok (.lreturn, 1) := by decide +kernel
set_option maxRecDepth 20000 in
theorem ggX4_addCube_X4_cube : GoodIn wsX4_addCube wsX4_cube := goodIn_r _ [6, 7, 8, 9, 10, 11, 12, 13, 14, 15, 16, 17, 18, 19, 20, 21, 22, 23, 5, 24, 25, 26, 27, 28, 29, 30, 31, 32, 33, 34, 35, 36, 37, 38, 39, 40, 41, 42, 43, 44, 45, 46, 47, 48, 49, 50, 51, 52, 53, 54, 55, 56, 57, 58, 59, 60, 61, 62, 63, 64, 65] (by decide +kernel) (by decide +kernel)
set_option maxRecDepth 20000 in
theorem gX4_addCube_X4_cube : GoodIn wsX4_addCube (wsV RX4 208 RX4 yX4_cube wsX4_cube) := goodIn_app (goodIn_of _ (by decide +kernel)) ggX4_addCube_X4_cube
theorem dX4_addCube_0 : decode cX4_addCube 0 = .ok (.lload_n 1, 1) := by decide +kernel
theorem dX4_addCube_1 : decode cX4_addCube 1 = .ok (.lstore 4, 2) := by decide +kernel
theorem dX4_addCube_3 : decode cX4_addCube 3 = .ok (.iconst 0, 1) := by decide +kernel
theorem dX4_addCube_4 : decode cX4_addCube 4 = .ok (.istore 6, 2) := by decide +kernel
theorem dX4_addCube_6 : decode cX4_addCube 6 = .ok (.iload 6, 2) := by decide +kernel
theorem dX4_addCube_8 : decode cX4_addCube 8 = .ok (.iconst 4, 1) := by decide +kernel
theorem dX4_addCube_9 : decode cX4_addCube 9 = .ok (.if_icmp .gt 26, 3) := by decide +kernel
theorem dX4_addCube_12 : decode cX4_addCube 12 = .ok (.ldc2_w 203, 3) := by decide +kernel
theorem dX4_addCube_15 : decode cX4_addCube 15 = .ok (.lload 4, 2) := by decide +kernel
theorem dX4_addCube_17 : decode cX4_addCube 17 = .ok (.lmul, 1) := by decide +kernel
theorem dX4_addCube_18 : decode cX4_addCube 18 = .ok (.aload_n 0, 1) := by decide +kernel
theorem dX4_addCube_19 : decode cX4_addCube 19 = .ok (.iload_n 3, 1) := by decide +kernel
theorem dX4_addCube_20 : decode cX4_addCube 20 = .ok (.iload 6, 2) := by decide +kernel
theorem dX4_addCube_22 : decode cX4_addCube 22 = .ok (.invokevirtual 208, 3) := by decide +kernel
theorem dX4_addCube_25 : decode cX4_addCube 25 = .ok (.i2l, 1) := by decide +kernel
theorem dX4_addCube_26 : decode cX4_addCube 26 = .ok (.ladd, 1) := by decide +kernel
theorem dX4_addCube_27 : decode cX4_addCube 27 = .ok (.lstore 4, 2) := by decide +kernel
theorem dX4_addCube_29 : decode cX4_addCube 29 = .ok (.iinc 6 1, 3) := by decide +kernel
theorem dX4_addCube_32 : decode cX4_addCube 32 = .ok (.goto (-26), 3) := by decide +kernel
theorem dX4_addCube_35 : decode cX4_addCube 35 = .ok (.iconst 0, 1) := by decide +kernel
theorem dX4_addCube_36 : decode cX4_addCube 36 = .ok (.istore 6, 2) := by decide +kernel
theorem dX4_addCube_38 : decode cX4_addCube 38 = .ok (.iload 6, 2) := by decide +kernel
theorem dX4_addCube_40 : decode cX4_addCube 40 = .ok (.bipush 6, 2) := by decide +kernel
theorem dX4_addCube_42 : decode cX4_addCube 42 = .ok (.if_icmp .ge 29, 3) := by decide +kernel
theorem dX4_addCube_45 : decode cX4_addCube 45 = .ok (.ldc2_w 203, 3) := by decide +kernel
theorem dX4_addCube_48 : decode cX4_addCube 48 = .ok (.lload 4, 2) := by decide +kernel
theorem dX4_addCube_50 : decode cX4_addCube 50 = .ok (.lmul, 1) := by decide +kernel
theorem dX4_addCube_51 : decode cX4_addCube 51 = .ok (.aload_n 0, 1) := by decide +kernel
theorem dX4_addCube_52 : decode cX4_addCube 52 = .ok (.iload_n 3, 1) := by decide +kernel
theorem dX4_addCube_53 : decode cX4_addCube 53 = .ok (.bipush 10, 2) := by decide +kernel
theorem dX4_addCube_55 : decode cX4_addCube 55 = .ok (.iload 6, 2) := by decide +kernel
theorem dX4_addCube_57 : decode cX4_addCube 57 = .ok (.iadd, 1) := by decide +kernel
theorem dX4_addCube_58 : decode cX4_addCube 58 = .ok (.invokevirtual 208, 3) := by decide +kernel
theorem dX4_addCube_61 : decode cX4_addCube 61 = .ok (.i2l, 1) := by decide +kernel
theorem dX4_addCube_62 : decode cX4_addCube 62 = .ok (.ladd, 1) := by decide +kernel
theorem dX4_addCube_63 : decode cX4_addCube 63 = .ok (.lstore 4, 2) := by decide +kernel
theorem dX4_addCube_65 : decode cX4_addCube 65 = .ok (.iinc 6 1, 3) := by decide +kernel
theorem dX4_addCube_68 : decode cX4_addCube 68 = .ok (.goto (-30), 3) := by decide +kernel
theorem dX4_addCube_71 : decode cX4_addCube 71 = .ok (.lload 4, 2) := by decide +kernel
theorem dX4_addCube_73 : decode cX4_addCube 73 = .ok (.lreturn, 1) := by decide +kernel
set_option maxRecDepth 20000 in
theorem ggX4_addWholeTower_X4_wall : GoodIn wsX4_addWholeTower wsX4_wall := goodIn_r _ [6, 7, 8, 9, 10, 11, 12, 13, 14, 15, 16, 103, 104, 105, 106, 107, 108, 109, 110, 111, 112, 113, 114, 115, 116, 117, 118] (by decide +kernel) (by decide +kernel)
set_option maxRecDepth 20000 in
theorem gX4_addWholeTower_X4_wall : GoodIn wsX4_addWholeTower (wsV RX4 211 RX4 yX4_wall wsX4_wall) := goodIn_app (goodIn_of _ (by decide +kernel)) ggX4_addWholeTower_X4_wall
set_option maxRecDepth 20000 in
theorem ggX4_addWholeTower_X4_ways : GoodIn wsX4_addWholeTower wsX4_ways := goodIn_r _ [20, 7, 8, 21, 22, 23, 24, 25, 26, 5, 27, 28, 29, 30, 31, 32, 33, 34, 35, 36, 37, 38, 39, 40, 41, 42, 43, 44, 45, 46, 47, 48, 49, 50, 51, 12, 52, 14, 53, 54, 55, 56, 57, 58, 59, 60, 61, 62, 63, 64, 65, 66, 67, 68, 69, 70, 71, 72, 73, 74, 75, 76, 77, 78, 103, 104, 105, 106, 107, 108, 109, 110, 111, 112, 113, 114, 115, 119, 120, 121, 122, 123, 124, 125, 126, 127, 128, 129, 130, 131, 116, 117, 118] (by decide +kernel) (by decide +kernel)
set_option maxRecDepth 20000 in
theorem gX4_addWholeTower_X4_ways : GoodIn wsX4_addWholeTower (wsV RX4 214 RX4 yX4_ways wsX4_ways) := goodIn_app (goodIn_of _ (by decide +kernel)) ggX4_addWholeTower_X4_ways
set_option maxRecDepth 20000 in
theorem ggX4_addWholeTower_X4_turning : GoodIn wsX4_addWholeTower wsX4_turning := goodIn_r _ [82, 7, 8, 21, 22, 83, 24, 25, 26, 5, 27, 28, 29, 30, 31, 32, 33, 34, 35, 36, 37, 38, 39, 40, 41, 42, 43, 44, 45, 46, 47, 48, 49, 50, 51, 12, 52, 14, 53, 54, 55, 56, 57, 58, 59, 60, 61, 62, 63, 64, 65, 66, 67, 68, 69, 70, 71, 72, 73, 74, 75, 76, 77, 78, 84, 85, 86, 87, 88, 89, 90, 91, 103, 104, 105, 106, 107, 108, 109, 110, 111, 112, 113, 114, 115, 119, 120, 121, 122, 123, 124, 125, 126, 127, 128, 129, 130, 131, 116, 117, 118] (by decide +kernel) (by decide +kernel)
set_option maxRecDepth 20000 in
theorem gX4_addWholeTower_X4_turning : GoodIn wsX4_addWholeTower (wsV RX4 217 RX4 yX4_turning wsX4_turning) := goodIn_app (goodIn_of _ (by decide +kernel)) ggX4_addWholeTower_X4_turning
set_option maxRecDepth 20000 in
theorem ggX4_addWholeTower_X4_odds : GoodIn wsX4_addWholeTower wsX4_odds := goodIn_r _ [95, 7, 8, 21, 22, 24, 25, 26, 5, 27, 28, 29, 30, 31, 32, 33, 34, 35, 36, 37, 38, 39, 40, 41, 42, 43, 44, 45, 46, 47, 48, 49, 50, 51, 12, 52, 14, 53, 54, 55, 56, 57, 58, 59, 60, 61, 62, 63, 64, 65, 66, 67, 68, 69, 70, 71, 72, 73, 74, 75, 76, 77, 78, 96, 97, 98, 99, 100, 101, 102, 103, 104, 105, 106, 107, 108, 109, 110, 111, 112, 113, 114, 115, 119, 120, 121, 122, 123, 124, 125, 126, 127, 128, 129, 130, 131, 116, 117, 118] (by decide +kernel) (by decide +kernel)
set_option maxRecDepth 20000 in
theorem gX4_addWholeTower_X4_odds : GoodIn wsX4_addWholeTower (wsV RX4 220 RX4 yX4_odds wsX4_odds) := goodIn_app (goodIn_of _ (by decide +kernel)) ggX4_addWholeTower_X4_odds
theorem dX4_addWholeTower_0 : decode cX4_addWholeTower 0 = .ok (.lload_n 1, 1) := by decide +kernel
theorem dX4_addWholeTower_1 : decode cX4_addWholeTower 1 = .ok (.lstore_n 3, 1) := by decide +kernel
theorem dX4_addWholeTower_2 : decode cX4_addWholeTower 2 = .ok (.iconst 0, 1) := by decide +kernel
theorem dX4_addWholeTower_3 : decode cX4_addWholeTower 3 = .ok (.istore 5, 2) := by decide +kernel
theorem dX4_addWholeTower_5 : decode cX4_addWholeTower 5 = .ok (.iload 5, 2) := by decide +kernel
theorem dX4_addWholeTower_7 : decode cX4_addWholeTower 7 = .ok (.iconst 4, 1) := by decide +kernel
theorem dX4_addWholeTower_8 : decode cX4_addWholeTower 8 = .ok (.if_icmp .ge 39, 3) := by decide +kernel
theorem dX4_addWholeTower_11 : decode cX4_addWholeTower 11 = .ok (.ldc2_w 203, 3) := by decide +kernel
theorem dX4_addWholeTower_14 : decode cX4_addWholeTower 14 = .ok (.lload_n 3, 1) := by decide +kernel
theorem dX4_addWholeTower_15 : decode cX4_addWholeTower 15 = .ok (.lmul, 1) := by decide +kernel
theorem dX4_addWholeTower_16 : decode cX4_addWholeTower 16 = .ok (.aload_n 0, 1) := by decide +kernel
theorem dX4_addWholeTower_17 : decode cX4_addWholeTower 17 = .ok (.iload 5, 2) := by decide +kernel
theorem dX4_addWholeTower_19 : decode cX4_addWholeTower 19 = .ok (.iconst 0, 1) := by decide +kernel
theorem dX4_addWholeTower_20 : decode cX4_addWholeTower 20 = .ok (.invokevirtual 211, 3) := by decide +kernel
theorem dX4_addWholeTower_23 : decode cX4_addWholeTower 23 = .ok (.i2l, 1) := by decide +kernel
theorem dX4_addWholeTower_24 : decode cX4_addWholeTower 24 = .ok (.ladd, 1) := by decide +kernel
theorem dX4_addWholeTower_25 : decode cX4_addWholeTower 25 = .ok (.lstore_n 3, 1) := by decide +kernel
theorem dX4_addWholeTower_26 : decode cX4_addWholeTower 26 = .ok (.ldc2_w 203, 3) := by decide +kernel
theorem dX4_addWholeTower_29 : decode cX4_addWholeTower 29 = .ok (.lload_n 3, 1) := by decide +kernel
theorem dX4_addWholeTower_30 : decode cX4_addWholeTower 30 = .ok (.lmul, 1) := by decide +kernel
theorem dX4_addWholeTower_31 : decode cX4_addWholeTower 31 = .ok (.aload_n 0, 1) := by decide +kernel
theorem dX4_addWholeTower_32 : decode cX4_addWholeTower 32 = .ok (.iload 5, 2) := by decide +kernel
theorem dX4_addWholeTower_34 : decode cX4_addWholeTower 34 = .ok (.iconst 1, 1) := by decide +kernel
theorem dX4_addWholeTower_35 : decode cX4_addWholeTower 35 = .ok (.invokevirtual 211, 3) := by decide +kernel
theorem dX4_addWholeTower_38 : decode cX4_addWholeTower 38 = .ok (.i2l, 1) := by decide +kernel
theorem dX4_addWholeTower_39 : decode cX4_addWholeTower 39 = .ok (.ladd, 1) := by decide +kernel
theorem dX4_addWholeTower_40 : decode cX4_addWholeTower 40 = .ok (.lstore_n 3, 1) := by decide +kernel
theorem dX4_addWholeTower_41 : decode cX4_addWholeTower 41 = .ok (.iinc 5 1, 3) := by decide +kernel
theorem dX4_addWholeTower_44 : decode cX4_addWholeTower 44 = .ok (.goto (-39), 3) := by decide +kernel
theorem dX4_addWholeTower_47 : decode cX4_addWholeTower 47 = .ok (.ldc2_w 203, 3) := by decide +kernel
theorem dX4_addWholeTower_50 : decode cX4_addWholeTower 50 = .ok (.lload_n 3, 1) := by decide +kernel
theorem dX4_addWholeTower_51 : decode cX4_addWholeTower 51 = .ok (.lmul, 1) := by decide +kernel
theorem dX4_addWholeTower_52 : decode cX4_addWholeTower 52 = .ok (.aload_n 0, 1) := by decide +kernel
theorem dX4_addWholeTower_53 : decode cX4_addWholeTower 53 = .ok (.iconst 0, 1) := by decide +kernel
theorem dX4_addWholeTower_54 : decode cX4_addWholeTower 54 = .ok (.invokevirtual 214, 3) := by decide +kernel
theorem dX4_addWholeTower_57 : decode cX4_addWholeTower 57 = .ok (.i2l, 1) := by decide +kernel
theorem dX4_addWholeTower_58 : decode cX4_addWholeTower 58 = .ok (.ladd, 1) := by decide +kernel
theorem dX4_addWholeTower_59 : decode cX4_addWholeTower 59 = .ok (.lstore_n 3, 1) := by decide +kernel
theorem dX4_addWholeTower_60 : decode cX4_addWholeTower 60 = .ok (.ldc2_w 203, 3) := by decide +kernel
theorem dX4_addWholeTower_63 : decode cX4_addWholeTower 63 = .ok (.lload_n 3, 1) := by decide +kernel
theorem dX4_addWholeTower_64 : decode cX4_addWholeTower 64 = .ok (.lmul, 1) := by decide +kernel
theorem dX4_addWholeTower_65 : decode cX4_addWholeTower 65 = .ok (.aload_n 0, 1) := by decide +kernel
theorem dX4_addWholeTower_66 : decode cX4_addWholeTower 66 = .ok (.iconst 1, 1) := by decide +kernel
theorem dX4_addWholeTower_67 : decode cX4_addWholeTower 67 = .ok (.invokevirtual 214, 3) := by decide +kernel
theorem dX4_addWholeTower_70 : decode cX4_addWholeTower 70 = .ok (.i2l, 1) := by decide +kernel
theorem dX4_addWholeTower_71 : decode cX4_addWholeTower 71 = .ok (.ladd, 1) := by decide +kernel
theorem dX4_addWholeTower_72 : decode cX4_addWholeTower 72 = .ok (.lstore_n 3, 1) := by decide +kernel
theorem dX4_addWholeTower_73 : decode cX4_addWholeTower 73 = .ok (.ldc2_w 203, 3) := by decide +kernel
theorem dX4_addWholeTower_76 : decode cX4_addWholeTower 76 = .ok (.lload_n 3, 1) := by decide +kernel
theorem dX4_addWholeTower_77 : decode cX4_addWholeTower 77 = .ok (.lmul, 1) := by decide +kernel
theorem dX4_addWholeTower_78 : decode cX4_addWholeTower 78 = .ok (.aload_n 0, 1) := by decide +kernel
theorem dX4_addWholeTower_79 : decode cX4_addWholeTower 79 = .ok (.iconst 0, 1) := by decide +kernel
theorem dX4_addWholeTower_80 : decode cX4_addWholeTower 80 = .ok (.invokevirtual 217, 3) := by decide +kernel
theorem dX4_addWholeTower_83 : decode cX4_addWholeTower 83 = .ok (.i2l, 1) := by decide +kernel
theorem dX4_addWholeTower_84 : decode cX4_addWholeTower 84 = .ok (.ladd, 1) := by decide +kernel
theorem dX4_addWholeTower_85 : decode cX4_addWholeTower 85 = .ok (.lstore_n 3, 1) := by decide +kernel
theorem dX4_addWholeTower_86 : decode cX4_addWholeTower 86 = .ok (.ldc2_w 203, 3) := by decide +kernel
theorem dX4_addWholeTower_89 : decode cX4_addWholeTower 89 = .ok (.lload_n 3, 1) := by decide +kernel
theorem dX4_addWholeTower_90 : decode cX4_addWholeTower 90 = .ok (.lmul, 1) := by decide +kernel
theorem dX4_addWholeTower_91 : decode cX4_addWholeTower 91 = .ok (.aload_n 0, 1) := by decide +kernel
theorem dX4_addWholeTower_92 : decode cX4_addWholeTower 92 = .ok (.iconst 1, 1) := by decide +kernel
theorem dX4_addWholeTower_93 : decode cX4_addWholeTower 93 = .ok (.invokevirtual 217, 3) := by decide +kernel
theorem dX4_addWholeTower_96 : decode cX4_addWholeTower 96 = .ok (.i2l, 1) := by decide +kernel
theorem dX4_addWholeTower_97 : decode cX4_addWholeTower 97 = .ok (.ladd, 1) := by decide +kernel
theorem dX4_addWholeTower_98 : decode cX4_addWholeTower 98 = .ok (.lstore_n 3, 1) := by decide +kernel
theorem dX4_addWholeTower_99 : decode cX4_addWholeTower 99 = .ok (.ldc2_w 203, 3) := by decide +kernel
theorem dX4_addWholeTower_102 : decode cX4_addWholeTower 102 = .ok (.lload_n 3, 1) := by decide +kernel
theorem dX4_addWholeTower_103 : decode cX4_addWholeTower 103 = .ok (.lmul, 1) := by decide +kernel
theorem dX4_addWholeTower_104 : decode cX4_addWholeTower 104 = .ok (.aload_n 0, 1) := by decide +kernel
theorem dX4_addWholeTower_105 : decode cX4_addWholeTower 105 = .ok (.iconst 0, 1) := by decide +kernel
theorem dX4_addWholeTower_106 : decode cX4_addWholeTower 106 = .ok (.invokevirtual 220, 3) := by decide +kernel
theorem dX4_addWholeTower_109 : decode cX4_addWholeTower 109 = .ok (.i2l, 1) := by decide +kernel
theorem dX4_addWholeTower_110 : decode cX4_addWholeTower 110 = .ok (.ladd, 1) := by decide +kernel
theorem dX4_addWholeTower_111 : decode cX4_addWholeTower 111 = .ok (.lstore_n 3, 1) := by decide +kernel
theorem dX4_addWholeTower_112 : decode cX4_addWholeTower 112 = .ok (.ldc2_w 203, 3) := by decide +kernel
theorem dX4_addWholeTower_115 : decode cX4_addWholeTower 115 = .ok (.lload_n 3, 1) := by decide +kernel
theorem dX4_addWholeTower_116 : decode cX4_addWholeTower 116 = .ok (.lmul, 1) := by decide +kernel
theorem dX4_addWholeTower_117 : decode cX4_addWholeTower 117 = .ok (.aload_n 0, 1) := by decide +kernel
theorem dX4_addWholeTower_118 : decode cX4_addWholeTower 118 = .ok (.iconst 1, 1) := by decide +kernel
theorem dX4_addWholeTower_119 : decode cX4_addWholeTower 119 = .ok (.invokevirtual 220, 3) := by decide +kernel
theorem dX4_addWholeTower_122 : decode cX4_addWholeTower 122 = .ok (.i2l, 1) := by decide +kernel
theorem dX4_addWholeTower_123 : decode cX4_addWholeTower 123 = .ok (.ladd, 1) := by decide +kernel
theorem dX4_addWholeTower_124 : decode cX4_addWholeTower 124 = .ok (.lreturn, 1) := by decide +kernel
end
section
-- small rows on whole numbers and on cells
theorem vi_c {i : Int32} {n : Nat} (h : decide (¬ (i < 0 ∨ n ≤ i.toNatClampNeg)) = true) : vp_in i n := of_decide_eq_true (p := ¬ (i < 0 ∨ n ≤ i.toNatClampNeg)) h
theorem nIa (a b : Nat) : nI a + nI b = nI (a + b) := (Int32.ofNat_add a b).symm
theorem nIm (a b : Nat) : nI a * nI b = nI (a * b) := (Int32.ofNat_mul a b).symm
theorem nI_ltN {a b : Nat} (ha : a < 2 ^ 31) (h : ¬ nI b ≤ nI a) : a < b := by
  rcases Nat.lt_or_ge a b with q | q
  · exact q
  · exact absurd (nI_le q ha) h
theorem nI_leN {a b : Nat} (hb : b < 2 ^ 31) (h : nI b ≤ nI a) : b ≤ a := by
  rcases Nat.lt_or_ge a b with q | q
  · exact absurd h (nI_ge q hb)
  · exact q
theorem d4_key {a : Nat} {e0 e1 e2 e3 : va_E} : ∀ (k : Nat) (q : Nat × va_E), ([(a, e0), (a + 1, e1), (a + 2, e2), (a + 3, e3)] : va_W)[k]? = some q → k < 4 ∧ q.1 = a + k := by
  intro k q h
  match k, h with
  | 0, h => cases h; exact ⟨by decide, rfl⟩
  | 1, h => cases h; exact ⟨by decide, rfl⟩
  | 2, h => cases h; exact ⟨by decide, rfl⟩
  | 3, h => cases h; exact ⟨by decide, rfl⟩
  | k + 4, h => simp at h
theorem d4 {A : Nat → Prop} {a : Nat} {e0 e1 e2 e3 : va_E} (h : ∀ q, a ≤ q → A q) : va_D A [(a, e0), (a + 1, e1), (a + 2, e2), (a + 3, e3)] := by
  refine ⟨fun i j p q hi hj he => ?_, fun k q hk => ?_⟩
  · have h1 := (d4_key i p hi).2
    have h2 := (d4_key j q hj).2
    omega
  · have h1 := (d4_key k q hk).2
    exact h _ (by omega)
section KM
variable {p : Program} {l : Launch} {e : Env} {R : Room} {s : State} {m : MethodId} {args : Array Value} {below : List Frame} {meth : Method} {c : Code} {H : Heap} {locs : List Loc} {cells slots : Nat} {Q : State → Prop}
variable {cc : ByteArray} {pc : Nat} {ls : Array Slot} {rest : List Value} {D : va_G} {cy : Nat → ClassId} {A : Nat → Prop} {ws : va_W}
theorem kq {o : Option Nat} {a : Nat} (h : o = some a) (k : W p l e R s m args below meth c H locs cells slots Q (F0 m pc ls (.ref a :: rest))) : W p l e R s m args below meth c H locs cells slots Q (F0 m pc ls (va_rf o :: rest)) := by
  subst h
  exact k
theorem m_outer (c : ClassId) (h : Nat) : Jvm.Free.Multi.outerC c 3 h 3 = vp_cell c (3, .inr (.inr (.inr (.inr (va_up (va_up (va_up (fun _ => none) 0 (some (h + 1))) 1 (some (h + 2))) 2 (some (h + 3))))))) := rfl
theorem m_inner (c : ClassId) : Jvm.Free.Multi.innerC c 24 (defaultValue .int) = vp_cell c (24, .inl (fun _ => 0)) := rfl
theorem nw_m (hx : p.tables.exec = Jvm.exec) (hb : c.code = cc) (hX : sx D cy A s) {own : String} {index : Nat} (hown : s.vm.findClass own = some m.cls) (hclink : (Cond.classLink own index "[[I").before args s = true) (harr : (Cond.arrayClass .int).before args s = true) (hP : va_P D vwCl ws H) (hD : va_D A ws) (hS : va_S A s.heap H locs) (hA : ∀ q, s.heap.size ≤ q → A q) (hcells : cells + 4 ≤ R.cells) (hslots : slots + 75 ≤ R.slots) (hdg : decode cc pc = .ok (.multianewarray index 2, 4))
    (kk : ∀ (q q1 q2 q3 : Nat) (H1 : Heap), va_P D vwCl (ws ++ [(q, .inl (cy 4, 3, .inr (.inr (.inr (.inr (va_up (va_up (va_up (fun _ => none) 0 (some q1)) 1 (some q2)) 2 (some q3))))))), (q1, .inl (cy 0, 24, .inl (fun _ => 0))), (q2, .inl (cy 0, 24, .inl (fun _ => 0))), (q3, .inl (cy 0, 24, .inl (fun _ => 0)))]) H1 → va_D A (ws ++ [(q, .inl (cy 4, 3, .inr (.inr (.inr (.inr (va_up (va_up (va_up (fun _ => none) 0 (some q1)) 1 (some q2)) 2 (some q3))))))), (q1, .inl (cy 0, 24, .inl (fun _ => 0))), (q2, .inl (cy 0, 24, .inl (fun _ => 0))), (q3, .inl (cy 0, 24, .inl (fun _ => 0)))]) → va_S A s.heap H1 locs →
      W p l e R s m args below meth c H1 locs (cells + 4) (slots + 75) Q (F0 m (pc + 4) ls (.ref q :: rest))) : W p l e R s m args below meth c H locs cells slots Q (F0 m pc ls (.int 24 :: .int 3 :: rest)) := by
  intro T hT Xs
  have n3 : (3 : Int32).toNatClampNeg = 3 := by decide
  have n24 : (24 : Int32).toNatClampNeg = 24 := by decide
  obtain ⟨vm₁, cA, comp, -, fA, fC, -, -, X', step⟩ := Xs.multianewarray2F hx (ty := .int) hown hclink ((arrayOver_alikeB (Vm.Alike.refl s.vm) hX.2.2.2.2.2)) harr (g := F0 m pc ls (.int 24 :: .int 3 :: rest)) rfl (by rw [hb]; exact hdg) rfl (by decide) (by decide) (by decide) (by decide) (by decide) (by decide) (by decide) (by rw [n3]; exact hcells) (by rw [n3, n24]; exact hslots)
  rw [n3, n24] at X' step
  have e1 : cA = cy 4 := Option.some.inj (fA.symm.trans (hX.1.2 4 (cy 4, .array .int) rfl).2)
  have e2 : comp = cy 0 := Option.some.inj (fC.symm.trans (hX.1.2 0 (cy 0, .int) rfl).2)
  subst e1
  subst e2
  generalize hF : Jvm.Free.Multi.fill (T.setVm vm₁) (cy 4) (cy 0) 3 24 (defaultValue .int) 3 = F at X' step
  have hTh : (T.setVm vm₁).heap = H := hT
  obtain ⟨f1, f2, -, -⟩ := Jvm.Free.Multi.fill_facts (T.setVm vm₁) (cy 4) (cy 0) 3 24 (defaultValue .int) 3
  rw [hF, hTh] at f1 f2
  have hold : ∀ x : Nat, x < H.size → F.heap[x]? = H[x]? := fun x hx => by
    have := Jvm.Free.Multi.fill_old (T.setVm vm₁) (cy 4) (cy 0) 3 24 (defaultValue .int) (a := x) (by rw [hTh]; exact hx) 3
    rw [hF, hTh] at this
    exact this
  have hrow : ∀ j : Nat, j < 3 → F.heap[H.size + 1 + j]? = some (vp_cell (cy 0) (24, .inl (fun _ => 0))) := fun j hj => by
    have := Jvm.Free.Multi.fill_inner (T.setVm vm₁) (cy 4) (cy 0) 3 24 (defaultValue .int) 3 j hj
    rw [hF, hTh, m_inner] at this
    exact this
  rw [m_outer] at f2
  have hP0 : va_P D vwCl ws F.heap := hP.kept (fun k9 x hx => hold x.1 ((hP k9 x hx).lt))
  have hP1 : va_P D vwCl [(H.size, .inl (cy 4, 3, .inr (.inr (.inr (.inr (va_up (va_up (va_up (fun _ => none) 0 (some (H.size + 1))) 1 (some (H.size + 2))) 2 (some (H.size + 3)))))))), (H.size + 1, .inl (cy 0, 24, .inl (fun _ => 0))), (H.size + 2, .inl (cy 0, 24, .inl (fun _ => 0))), (H.size + 3, .inl (cy 0, 24, .inl (fun _ => 0)))] F.heap := by
    intro k9 x hx9
    match k9, hx9 with
    | 0, h => cases h; exact f2
    | 1, h => cases h; exact hrow 0 (by decide)
    | 2, h => cases h; exact hrow 1 (by decide)
    | 3, h => cases h; exact hrow 2 (by decide)
    | k9 + 4, h => simp at h
  have hD1 := va_D.app hD (d4 (e0 := .inl (cy 4, 3, .inr (.inr (.inr (.inr (va_up (va_up (va_up (fun _ => none) 0 (some (H.size + 1))) 1 (some (H.size + 2))) 2 (some (H.size + 3)))))))) (e1 := .inl (cy 0, 24, .inl (fun _ => 0))) (e2 := .inl (cy 0, 24, .inl (fun _ => 0))) (e3 := .inl (cy 0, 24, .inl (fun _ => 0))) (fun q h => hA q (Nat.le_trans hS.1 h))) (fun i j x y hx9 hy9 he => by
    have h1 := (hP i x hx9).lt
    have h2 := (d4_key j y hy9).2
    omega)
  obtain ⟨t, a1, b1⟩ := kk H.size (H.size + 1) (H.size + 2) (H.size + 3) F.heap (hP0.app hP1) hD1 ⟨Nat.le_trans hS.1 (by omega), fun x h1 h2 => (hold x (Nat.lt_of_lt_of_le h1 hS.1)).trans (hS.2.1 x h1 h2), hS.2.2⟩ F rfl X'
  rw [hT] at step
  exact ⟨t, step t a1, b1⟩
end KM
end
section
-- one step of a ring, and how often it is done
def rotA (st : Nat) (f : Nat → Int32) : Nat → Int32 := upd (upd (upd (upd f (st + 5) (f (st + 3))) (st + 3) (upd f (st + 5) (f (st + 3)) (st + 4))) (st + 4) (upd (upd f (st + 5) (f (st + 3))) (st + 3) (upd f (st + 5) (f (st + 3)) (st + 4)) (st + 2))) (st + 2) (f (st + 5))
def rotB (st : Nat) (f : Nat → Int32) : Nat → Int32 := upd (upd (upd (upd f (st + 3) (f (st + 1))) (st + 1) (upd f (st + 3) (f (st + 1)) (st + 2))) (st + 2) (upd (upd f (st + 3) (f (st + 1))) (st + 1) (upd f (st + 3) (f (st + 1)) (st + 2)) (st + 0))) (st + 0) (f (st + 3))
def rotR (rg : Int32) (st : Nat) (f : Nat → Int32) : Nat → Int32 := if rg = 0 then rotA st f else rotB st f
def itN (g : (Nat → Int32) → (Nat → Int32)) : Nat → (Nat → Int32) → (Nat → Int32)
  | 0, f => f
  | n + 1, f => g (itN g n f)
def tr_n (kd : Int32) (t : Nat) : Nat := if kd = 4 then 2 else if t % 2 = 0 then 1 else 3
def tr_r (t : Nat) : Int32 := if t < 2 then 0 else 4
def tr_f (kd : Int32) (t st : Nat) (f : Nat → Int32) : Nat → Int32 := itN (rotR (tr_r t) st) (tr_n kd t) f
theorem t4 {t : Nat} (h : t < 4) : t = 0 ∨ t = 1 ∨ t = 2 ∨ t = 3 := by omega
theorem nIst (st k : Nat) {v : Int32} (h : nI k = v) : nI st + v = nI (st + k) := by rw [← h]; exact nIa st k
def q_X4_canTurn (cy : Nat → ClassId) (k : Nat) (t : Int32) : Int32 → va_W → Prop := fun (r : Int32) (u : va_W) => u = [] ∧ r = (if (fTK k >>> (t &&& 31)) &&& 1 = 1 then 1 else 0)
set_option maxHeartbeats 4000000 in
set_option maxRecDepth 100000 in
theorem c_X4_canTurn (l : Launch) (D : va_G) (cy : Nat → ClassId) (sz : Nat) (k : Nat) (t : Int32) (hk : k < 5) : Met l yX4_canTurn wsX4_canTurn ({ frames := 0, cells := 0, slots := 0, locals := 0 } : Room) (va_Pc [.int (nI k), .int t] (cpre D cy [] sz)) (va_Qi (q_X4_canTurn cy k t) (cpost D (va_A [] sz)) (va_A [] sz)) 0 0 (va_A [] sz) := by
  refine Met.ofW (cc := cX4_canTurn) (maxL := 2) (ret := (some .boolean)) (by decide) rfl ?_
  intro p e s m args below meth c s₁ B hml hv
  obtain ⟨rfl, hsz, hP, hD0, hX⟩ := hv
  have hx := B.exec
  have hb := B.bytes
  have hr := B.returns
  have hts := atoms_spec (ws := wsX4_canTurn) B.pre
  have hown : s.vm.findClass RX4 = some m.cls := findClass_of_methodNamed B.named
  have hlocks := B.notSynchronized
  subst hsz
  have hD := hD0.self (sz := s.heap.size)
  generalize hAe : va_A [] s.heap.size = A at hD hX ⊢
  have hA : ∀ q : Nat, s.heap.size ≤ q → A q := fun q h => by rw [← hAe]; exact Or.inr h
  obtain ⟨H, hH⟩ : ∃ H : Heap, H = s.heap := ⟨_, rfl⟩
  have hS : va_S A s.heap H [] := hH ▸ va_S.rf
  have hK := hX.1
  have hP : va_P D vwCl [] H := hH ▸ hP
  rw [← hH]
  obtain ⟨tTK, zTK, aTK⟩ := hX.2.1.1
  have f_102 := hts (.fieldLink RX4 102 "CubeTower" "TURNS_OF_KIND" "[I") (by decide +kernel)
  have hl := lv_entry ([.int (nI k), .int t]) (n := 2) (Nat.le_of_ble_eq_true rfl)
  rw [lg_entry_eq]
  generalize (lg_sl ([.int (nI k), .int t]) ++ List.replicate (2 - (lg_sl ([.int (nI k), .int t])).length) Slot.unset).toArray = ls at hl ⊢
  have hl : lv_has ls 2 [(0, .int (nI k)), (1, .int t)] := hl
  refine va_gets hx hb zTK hS hown f_102 (fun _ h9 => h9) dX4_canTurn_0 ?_
  refine lv_iload_n hx hb dX4_canTurn_3 rfl (lv_at hl 0 rfl) ?_
  refine va_ti hx hb aTK hS (nI_in hk (by decide)) rfl dX4_canTurn_4 ?_
  refine lv_topi (fun y1 ey1 => ?_)
  obtain rfl : y1 = fTK k := ey1.trans (congrArg fTK (nI_clamp (by omega)))
  refine lv_iload_n hx hb dX4_canTurn_5 rfl (lv_at hl 1 rfl) ?_
  refine lv_ishr hx hb dX4_canTurn_6 ?_
  refine lv_iconst (v := 1) hx hb dX4_canTurn_7 (by decide) ?_
  refine lv_iand hx hb dX4_canTurn_8 ?_
  refine lv_iconst (v := 1) hx hb dX4_canTurn_9 (by decide) ?_
  refine lv_icmp_ne (tgt := 17) hx hb dX4_canTurn_10 (by decide) (fun c_10 => ?_) (fun c_10 => ?_)
  · refine lv_iconst (v := 0) hx hb dX4_canTurn_17 (by decide) ?_
    have hP9 := hP.sub (ws' := []) [] rfl
    have hD9 := hD.sub (ws' := []) [] (by decide) rfl
    exact W.zret (v := 0) hx hb hr (rfl) (fun t9 ht9 hW9 => ⟨⟨0, [], rfl, ⟨rfl, (if_neg c_10).symm⟩, by rw [ht9]; exact hP9, hD9⟩, hS.F ht9⟩) hS.2.2 dX4_canTurn_18
  · refine lv_iconst (v := 1) hx hb dX4_canTurn_13 (by decide) ?_
    refine lv_goto (tgt := 18) hx hb dX4_canTurn_14 (by decide) ?_
    have hP9 := hP.sub (ws' := []) [] rfl
    have hD9 := hD.sub (ws' := []) [] (by decide) rfl
    exact W.zret (v := 1) hx hb hr (rfl) (fun t9 ht9 hW9 => ⟨⟨1, [], rfl, ⟨rfl, (if_pos c_10).symm⟩, by rw [ht9]; exact hP9, hD9⟩, hS.F ht9⟩) hS.2.2 dX4_canTurn_18
def q_X4_turnRow (cy : Nat → ClassId) (a : Nat) (n : Nat) (f : Nat → Int32) (st : Nat) (kd : Int32) (t : Nat) : va_W → Prop := fun (u : va_W) => u = [(a, .inl (cy 0, n, .inl (tr_f kd t st f)))]
set_option maxHeartbeats 4000000 in
set_option maxRecDepth 100000 in
theorem c_X4_turnRow (l : Launch) (D : va_G) (cy : Nat → ClassId) (sz : Nat) (a : Nat) (n : Nat) (f : Nat → Int32) (st : Nat) (kd : Int32) (t : Nat) (hn : n < 2 ^ 31) (hst : st + 6 ≤ n) (ht : t < 4) : Met l yX4_turnRow wsX4_turnRow ({ frames := 0, cells := 0, slots := 0, locals := 0 } : Room) (va_Pc [.ref a, .int (nI st), .int kd, .int (nI t)] (cpre D cy [(a, .inl (cy 0, n, .inl f))] sz)) (va_Qv (q_X4_turnRow cy a n f st kd t) (cpost D (va_A [(a, .inl (cy 0, n, .inl f))] sz)) (va_A [(a, .inl (cy 0, n, .inl f))] sz)) 0 0 (va_A [(a, .inl (cy 0, n, .inl f))] sz) := by
  refine Met.ofW (cc := cX4_turnRow) (maxL := 10) (ret := none) (by decide) rfl ?_
  intro p e s m args below meth c s₁ B hml hv
  obtain ⟨rfl, hsz, hP, hD0, hX⟩ := hv
  have hx := B.exec
  have hb := B.bytes
  have hr := B.returns
  have hts := atoms_spec (ws := wsX4_turnRow) B.pre
  have hown : s.vm.findClass RX4 = some m.cls := findClass_of_methodNamed B.named
  have hlocks := B.notSynchronized
  subst hsz
  have hD := hD0.self (sz := s.heap.size)
  generalize hAe : va_A [(a, .inl (cy 0, n, .inl f))] s.heap.size = A at hD hX ⊢
  have hA : ∀ q : Nat, s.heap.size ≤ q → A q := fun q h => by rw [← hAe]; exact Or.inr h
  obtain ⟨H, hH⟩ : ∃ H : Heap, H = s.heap := ⟨_, rfl⟩
  have hS : va_S A s.heap H [] := hH ▸ va_S.rf
  have hK := hX.1
  have hP : va_P D vwCl [(a, .inl (cy 0, n, .inl f))] H := hH ▸ hP
  rw [← hH]
  obtain ⟨tRG, zRG, aRG⟩ := hX.2.1.2.1
  have f_134 := hts (.fieldLink RX4 134 "CubeTower" "RINGS" "[I") (by decide +kernel)
  have hl := lv_entry ([.ref a, .int (nI st), .int kd, .int (nI t)]) (n := 10) (Nat.le_of_ble_eq_true rfl)
  rw [lg_entry_eq]
  generalize (lg_sl ([.ref a, .int (nI st), .int kd, .int (nI t)]) ++ List.replicate (10 - (lg_sl ([.ref a, .int (nI st), .int kd, .int (nI t)])).length) Slot.unset).toArray = ls at hl ⊢
  have hl : lv_has ls 10 [(0, .ref a), (1, .int (nI st)), (2, .int kd), (3, .int (nI t))] := hl
  have lp_39 : ∀ (n_39 : Nat) (S : Nat) (rg : Int32) (k : Nat) (f1 : Nat → Int32) (hrg : rg = 0 ∨ rg = 4) (hS9 : S ≤ 3) (hk : k ≤ S) (hf : f1 = itN (rotR rg st) k f) (hfin : itN (rotR rg st) S f = tr_f kd t st f) (hm : S < k + n_39) (H : Heap) (locs : List Loc) (ls : Array Slot), va_P D vwCl [(a, .inl (cy 0, n, .inl f1))] H → va_D A [(a, .inl (cy 0, n, .inl f1))] → va_S A s.heap H locs → lv_has ls 10 [(0, .ref a), (1, .int (nI st)), (5, .int (nI S)), (6, .int rg), (7, .int (nI k))] → W p l e (headSpec wsX4_turnRow ({ frames := 0, cells := 0, slots := 0, locals := 0 } : Room)).room s m ([.ref a, .int (nI st), .int kd, .int (nI t)] : List Value).toArray below meth c H locs 0 0 (MQ below (va_Qv (q_X4_turnRow cy a n f st kd t) (cpost D A) A) ([.ref a, .int (nI st), .int kd, .int (nI t)] : List Value).toArray s 0 0 A) (F0 m 39 ls []) := by
    intro n_39
    induction n_39 with
    | zero => intro S rg k f1 hrg hS9 hk hf hfin hm; exact absurd hm (by omega)
    | succ n_39 ih_39 =>
      intro S rg k f1 hrg hS9 hk hf hfin hm H locs ls hP hD hS hl
      refine lv_iload hx hb dX4_turnRow_39 (lv_at hl 4 rfl) ?_
      refine lv_iload hx hb dX4_turnRow_41 (lv_at hl 2 rfl) ?_
      refine lv_icmp_ge (tgt := 122) hx hb dX4_turnRow_43 (by decide) (fun c_43 => ?_) (fun c_43 => ?_)
      · have hkS : k = S := Nat.le_antisymm hk (nI_leN (by omega) c_43)
        subst hkS
        subst hf
        rw [hfin] at hP hD
        have hP : va_P D vwCl [(a, .inl (cy 0, n, .inl (tr_f kd t st f)))] H := hP
        have hD : va_D A [(a, .inl (cy 0, n, .inl (tr_f kd t st f)))] := hD
        have hP9 := hP.sub (ws' := [(a, .inl (cy 0, n, .inl (tr_f kd t st f)))]) [0] rfl
        have hD9 := hD.sub (ws' := [(a, .inl (cy 0, n, .inl (tr_f kd t st f)))]) [0] (by decide) rfl
        exact W.vret hx hb hr (fun t9 ht9 hW9 => ⟨⟨[(a, .inl (cy 0, n, .inl (tr_f kd t st f)))], rfl, rfl, by rw [ht9]; exact hP9, hD9⟩, hS.F ht9⟩) hS.2.2 dX4_turnRow_122
      · have hkS : k < S := nI_ltN (by omega) c_43
        have hrg0 := hrg
        rcases hrg with rfl | rfl
        · refine lv_aload_n hx hb dX4_turnRow_46 rfl (lv_at hl 0 rfl) ?_
          refine lv_iload_n hx hb dX4_turnRow_47 rfl (lv_at hl 1 rfl) ?_
          refine va_gets hx hb zRG hS hown f_134 (fun _ h9 => h9) dX4_turnRow_48 ?_
          refine lv_iload hx hb dX4_turnRow_51 (lv_at hl 3 rfl) ?_
          refine lv_iconst (v := 4) hx hb dX4_turnRow_53 (by decide) ?_
          refine lv_iadd hx hb dX4_turnRow_54 ?_
          refine lv_topi (fun y1 ey1 => ?_)
          obtain rfl : y1 = 4 := ey1.trans (by decide)
          refine lv_iconst (v := 1) hx hb dX4_turnRow_55 (by decide) ?_
          refine lv_isub hx hb dX4_turnRow_56 ?_
          refine lv_topi (fun y2 ey2 => ?_)
          obtain rfl : y2 = 3 := ey2.trans (by decide)
          refine va_ti hx hb aRG hS (vi_c (by decide +kernel)) rfl dX4_turnRow_57 ?_
          refine lv_topi (fun y3 ey3 => ?_)
          obtain rfl : y3 = 5 := ey3.trans (by decide)
          refine lv_iadd hx hb dX4_turnRow_58 ?_
          refine lv_topi (fun y4 ey4 => ?_)
          obtain rfl : y4 = nI (st + 5) := ey4.trans (nIst st 5 (by decide))
          refine va_iald hx hb hK hP 0 0 rfl rfl (nI_in (by omega) hn) dX4_turnRow_59 ?_
          refine lv_topi (fun y5 ey5 => ?_)
          obtain rfl : y5 = f1 (st + 5) := ey5.trans (congrArg f1 (nI_clamp (by omega)))
          refine lv_istore (lv' := [(8, .int (f1 (st + 5))), (0, .ref a), (1, .int (nI st)), (5, .int (nI S)), (6, .int 0), (7, .int (nI k))]) hx hb dX4_turnRow_60 hl (by decide) rfl (fun ls hl => ?_)
          refine lv_iconst (v := 3) hx hb dX4_turnRow_62 (by decide) ?_
          refine lv_istore (lv' := [(9, .int 3), (8, .int (f1 (st + 5))), (0, .ref a), (1, .int (nI st)), (5, .int (nI S)), (6, .int 0), (7, .int (nI k))]) hx hb dX4_turnRow_63 hl (by decide) rfl (fun ls hl => ?_)
          refine lv_iload hx hb dX4_turnRow_65 (lv_at hl 0 rfl) ?_
          refine lv_if_le (tgt := 104) hx hb dX4_turnRow_67 (by decide) (fun c_67 => ?_) (fun c_67 => ?_)
          · exact absurd c_67 (by decide)
          · refine lv_aload_n hx hb dX4_turnRow_70 rfl (lv_at hl 2 rfl) ?_
            refine lv_iload_n hx hb dX4_turnRow_71 rfl (lv_at hl 3 rfl) ?_
            refine va_gets hx hb zRG hS hown f_134 (fun _ h9 => h9) dX4_turnRow_72 ?_
            refine lv_iload hx hb dX4_turnRow_75 (lv_at hl 5 rfl) ?_
            refine lv_iload hx hb dX4_turnRow_77 (lv_at hl 0 rfl) ?_
            refine lv_iadd hx hb dX4_turnRow_79 ?_
            refine lv_topi (fun y6 ey6 => ?_)
            obtain rfl : y6 = 3 := ey6.trans (by decide)
            refine va_ti hx hb aRG hS (vi_c (by decide +kernel)) rfl dX4_turnRow_80 ?_
            refine lv_topi (fun y7 ey7 => ?_)
            obtain rfl : y7 = 5 := ey7.trans (by decide)
            refine lv_iadd hx hb dX4_turnRow_81 ?_
            refine lv_topi (fun y8 ey8 => ?_)
            obtain rfl : y8 = nI (st + 5) := ey8.trans (nIst st 5 (by decide))
            refine lv_aload_n hx hb dX4_turnRow_82 rfl (lv_at hl 2 rfl) ?_
            refine lv_iload_n hx hb dX4_turnRow_83 rfl (lv_at hl 3 rfl) ?_
            refine va_gets hx hb zRG hS hown f_134 (fun _ h9 => h9) dX4_turnRow_84 ?_
            refine lv_iload hx hb dX4_turnRow_87 (lv_at hl 5 rfl) ?_
            refine lv_iload hx hb dX4_turnRow_89 (lv_at hl 0 rfl) ?_
            refine lv_iadd hx hb dX4_turnRow_91 ?_
            refine lv_topi (fun y9 ey9 => ?_)
            obtain rfl : y9 = 3 := ey9.trans (by decide)
            refine lv_iconst (v := 1) hx hb dX4_turnRow_92 (by decide) ?_
            refine lv_isub hx hb dX4_turnRow_93 ?_
            refine lv_topi (fun y10 ey10 => ?_)
            obtain rfl : y10 = 2 := ey10.trans (by decide)
            refine va_ti hx hb aRG hS (vi_c (by decide +kernel)) rfl dX4_turnRow_94 ?_
            refine lv_topi (fun y11 ey11 => ?_)
            obtain rfl : y11 = 3 := ey11.trans (by decide)
            refine lv_iadd hx hb dX4_turnRow_95 ?_
            refine lv_topi (fun y12 ey12 => ?_)
            obtain rfl : y12 = nI (st + 3) := ey12.trans (nIst st 3 (by decide))
            refine va_iald hx hb hK hP 0 0 rfl rfl (nI_in (by omega) hn) dX4_turnRow_96 ?_
            refine lv_topi (fun y13 ey13 => ?_)
            obtain rfl : y13 = f1 (st + 3) := ey13.trans (congrArg f1 (nI_clamp (by omega)))
            refine va_iast hx hb hK hP hD hS 0 0 rfl rfl (nI_in (by omega) hn) dX4_turnRow_97 (fun H locs hP hD hS => ?_)
            rw [show (nI (st + 5)).toNatClampNeg = st + 5 from nI_clamp (by omega)] at hP hD
            have hP : va_P D vwCl [(a, .inl (cy 0, n, .inl (upd f1 (st + 5) (f1 (st + 3)))))] H := hP
            have hD : va_D A [(a, .inl (cy 0, n, .inl (upd f1 (st + 5) (f1 (st + 3)))))] := hD
            refine lv_iinc (v := 2) (lv' := [(9, .int 2), (8, .int (f1 (st + 5))), (0, .ref a), (1, .int (nI st)), (5, .int (nI S)), (6, .int 0), (7, .int (nI k))]) hx hb dX4_turnRow_98 hl (k := 0) rfl (by decide) (by decide) rfl (fun ls hl => ?_)
            refine lv_goto (tgt := 65) hx hb dX4_turnRow_101 (by decide) ?_
            refine lv_iload hx hb dX4_turnRow_65 (lv_at hl 0 rfl) ?_
            refine lv_if_le (tgt := 104) hx hb dX4_turnRow_67 (by decide) (fun c_67 => ?_) (fun c_67 => ?_)
            · exact absurd c_67 (by decide)
            · refine lv_aload_n hx hb dX4_turnRow_70 rfl (lv_at hl 2 rfl) ?_
              refine lv_iload_n hx hb dX4_turnRow_71 rfl (lv_at hl 3 rfl) ?_
              refine va_gets hx hb zRG hS hown f_134 (fun _ h9 => h9) dX4_turnRow_72 ?_
              refine lv_iload hx hb dX4_turnRow_75 (lv_at hl 5 rfl) ?_
              refine lv_iload hx hb dX4_turnRow_77 (lv_at hl 0 rfl) ?_
              refine lv_iadd hx hb dX4_turnRow_79 ?_
              refine lv_topi (fun y14 ey14 => ?_)
              obtain rfl : y14 = 2 := ey14.trans (by decide)
              refine va_ti hx hb aRG hS (vi_c (by decide +kernel)) rfl dX4_turnRow_80 ?_
              refine lv_topi (fun y15 ey15 => ?_)
              obtain rfl : y15 = 3 := ey15.trans (by decide)
              refine lv_iadd hx hb dX4_turnRow_81 ?_
              refine lv_topi (fun y16 ey16 => ?_)
              obtain rfl : y16 = nI (st + 3) := ey16.trans (nIst st 3 (by decide))
              refine lv_aload_n hx hb dX4_turnRow_82 rfl (lv_at hl 2 rfl) ?_
              refine lv_iload_n hx hb dX4_turnRow_83 rfl (lv_at hl 3 rfl) ?_
              refine va_gets hx hb zRG hS hown f_134 (fun _ h9 => h9) dX4_turnRow_84 ?_
              refine lv_iload hx hb dX4_turnRow_87 (lv_at hl 5 rfl) ?_
              refine lv_iload hx hb dX4_turnRow_89 (lv_at hl 0 rfl) ?_
              refine lv_iadd hx hb dX4_turnRow_91 ?_
              refine lv_topi (fun y17 ey17 => ?_)
              obtain rfl : y17 = 2 := ey17.trans (by decide)
              refine lv_iconst (v := 1) hx hb dX4_turnRow_92 (by decide) ?_
              refine lv_isub hx hb dX4_turnRow_93 ?_
              refine lv_topi (fun y18 ey18 => ?_)
              obtain rfl : y18 = 1 := ey18.trans (by decide)
              refine va_ti hx hb aRG hS (vi_c (by decide +kernel)) rfl dX4_turnRow_94 ?_
              refine lv_topi (fun y19 ey19 => ?_)
              obtain rfl : y19 = 4 := ey19.trans (by decide)
              refine lv_iadd hx hb dX4_turnRow_95 ?_
              refine lv_topi (fun y20 ey20 => ?_)
              obtain rfl : y20 = nI (st + 4) := ey20.trans (nIst st 4 (by decide))
              refine va_iald hx hb hK hP 0 0 rfl rfl (nI_in (by omega) hn) dX4_turnRow_96 ?_
              refine lv_topi (fun y21 ey21 => ?_)
              obtain rfl : y21 = (upd f1 (st + 5) (f1 (st + 3))) (st + 4) := ey21.trans (congrArg (upd f1 (st + 5) (f1 (st + 3))) (nI_clamp (by omega)))
              refine va_iast hx hb hK hP hD hS 0 0 rfl rfl (nI_in (by omega) hn) dX4_turnRow_97 (fun H locs hP hD hS => ?_)
              rw [show (nI (st + 3)).toNatClampNeg = st + 3 from nI_clamp (by omega)] at hP hD
              have hP : va_P D vwCl [(a, .inl (cy 0, n, .inl (upd (upd f1 (st + 5) (f1 (st + 3))) (st + 3) ((upd f1 (st + 5) (f1 (st + 3))) (st + 4)))))] H := hP
              have hD : va_D A [(a, .inl (cy 0, n, .inl (upd (upd f1 (st + 5) (f1 (st + 3))) (st + 3) ((upd f1 (st + 5) (f1 (st + 3))) (st + 4)))))] := hD
              refine lv_iinc (v := 1) (lv' := [(9, .int 1), (8, .int (f1 (st + 5))), (0, .ref a), (1, .int (nI st)), (5, .int (nI S)), (6, .int 0), (7, .int (nI k))]) hx hb dX4_turnRow_98 hl (k := 0) rfl (by decide) (by decide) rfl (fun ls hl => ?_)
              refine lv_goto (tgt := 65) hx hb dX4_turnRow_101 (by decide) ?_
              refine lv_iload hx hb dX4_turnRow_65 (lv_at hl 0 rfl) ?_
              refine lv_if_le (tgt := 104) hx hb dX4_turnRow_67 (by decide) (fun c_67 => ?_) (fun c_67 => ?_)
              · exact absurd c_67 (by decide)
              · refine lv_aload_n hx hb dX4_turnRow_70 rfl (lv_at hl 2 rfl) ?_
                refine lv_iload_n hx hb dX4_turnRow_71 rfl (lv_at hl 3 rfl) ?_
                refine va_gets hx hb zRG hS hown f_134 (fun _ h9 => h9) dX4_turnRow_72 ?_
                refine lv_iload hx hb dX4_turnRow_75 (lv_at hl 5 rfl) ?_
                refine lv_iload hx hb dX4_turnRow_77 (lv_at hl 0 rfl) ?_
                refine lv_iadd hx hb dX4_turnRow_79 ?_
                refine lv_topi (fun y22 ey22 => ?_)
                obtain rfl : y22 = 1 := ey22.trans (by decide)
                refine va_ti hx hb aRG hS (vi_c (by decide +kernel)) rfl dX4_turnRow_80 ?_
                refine lv_topi (fun y23 ey23 => ?_)
                obtain rfl : y23 = 4 := ey23.trans (by decide)
                refine lv_iadd hx hb dX4_turnRow_81 ?_
                refine lv_topi (fun y24 ey24 => ?_)
                obtain rfl : y24 = nI (st + 4) := ey24.trans (nIst st 4 (by decide))
                refine lv_aload_n hx hb dX4_turnRow_82 rfl (lv_at hl 2 rfl) ?_
                refine lv_iload_n hx hb dX4_turnRow_83 rfl (lv_at hl 3 rfl) ?_
                refine va_gets hx hb zRG hS hown f_134 (fun _ h9 => h9) dX4_turnRow_84 ?_
                refine lv_iload hx hb dX4_turnRow_87 (lv_at hl 5 rfl) ?_
                refine lv_iload hx hb dX4_turnRow_89 (lv_at hl 0 rfl) ?_
                refine lv_iadd hx hb dX4_turnRow_91 ?_
                refine lv_topi (fun y25 ey25 => ?_)
                obtain rfl : y25 = 1 := ey25.trans (by decide)
                refine lv_iconst (v := 1) hx hb dX4_turnRow_92 (by decide) ?_
                refine lv_isub hx hb dX4_turnRow_93 ?_
                refine lv_topi (fun y26 ey26 => ?_)
                obtain rfl : y26 = 0 := ey26.trans (by decide)
                refine va_ti hx hb aRG hS (vi_c (by decide +kernel)) rfl dX4_turnRow_94 ?_
                refine lv_topi (fun y27 ey27 => ?_)
                obtain rfl : y27 = 2 := ey27.trans (by decide)
                refine lv_iadd hx hb dX4_turnRow_95 ?_
                refine lv_topi (fun y28 ey28 => ?_)
                obtain rfl : y28 = nI (st + 2) := ey28.trans (nIst st 2 (by decide))
                refine va_iald hx hb hK hP 0 0 rfl rfl (nI_in (by omega) hn) dX4_turnRow_96 ?_
                refine lv_topi (fun y29 ey29 => ?_)
                obtain rfl : y29 = (upd (upd f1 (st + 5) (f1 (st + 3))) (st + 3) ((upd f1 (st + 5) (f1 (st + 3))) (st + 4))) (st + 2) := ey29.trans (congrArg (upd (upd f1 (st + 5) (f1 (st + 3))) (st + 3) ((upd f1 (st + 5) (f1 (st + 3))) (st + 4))) (nI_clamp (by omega)))
                refine va_iast hx hb hK hP hD hS 0 0 rfl rfl (nI_in (by omega) hn) dX4_turnRow_97 (fun H locs hP hD hS => ?_)
                rw [show (nI (st + 4)).toNatClampNeg = st + 4 from nI_clamp (by omega)] at hP hD
                have hP : va_P D vwCl [(a, .inl (cy 0, n, .inl (upd (upd (upd f1 (st + 5) (f1 (st + 3))) (st + 3) ((upd f1 (st + 5) (f1 (st + 3))) (st + 4))) (st + 4) ((upd (upd f1 (st + 5) (f1 (st + 3))) (st + 3) ((upd f1 (st + 5) (f1 (st + 3))) (st + 4))) (st + 2)))))] H := hP
                have hD : va_D A [(a, .inl (cy 0, n, .inl (upd (upd (upd f1 (st + 5) (f1 (st + 3))) (st + 3) ((upd f1 (st + 5) (f1 (st + 3))) (st + 4))) (st + 4) ((upd (upd f1 (st + 5) (f1 (st + 3))) (st + 3) ((upd f1 (st + 5) (f1 (st + 3))) (st + 4))) (st + 2)))))] := hD
                refine lv_iinc (v := 0) (lv' := [(9, .int 0), (8, .int (f1 (st + 5))), (0, .ref a), (1, .int (nI st)), (5, .int (nI S)), (6, .int 0), (7, .int (nI k))]) hx hb dX4_turnRow_98 hl (k := 0) rfl (by decide) (by decide) rfl (fun ls hl => ?_)
                refine lv_goto (tgt := 65) hx hb dX4_turnRow_101 (by decide) ?_
                refine lv_iload hx hb dX4_turnRow_65 (lv_at hl 0 rfl) ?_
                refine lv_if_le (tgt := 104) hx hb dX4_turnRow_67 (by decide) (fun c_67 => ?_) (fun c_67 => ?_)
                · refine lv_aload_n hx hb dX4_turnRow_104 rfl (lv_at hl 2 rfl) ?_
                  refine lv_iload_n hx hb dX4_turnRow_105 rfl (lv_at hl 3 rfl) ?_
                  refine va_gets hx hb zRG hS hown f_134 (fun _ h9 => h9) dX4_turnRow_106 ?_
                  refine lv_iload hx hb dX4_turnRow_109 (lv_at hl 5 rfl) ?_
                  refine va_ti hx hb aRG hS (vi_c (by decide +kernel)) rfl dX4_turnRow_111 ?_
                  refine lv_topi (fun y30 ey30 => ?_)
                  obtain rfl : y30 = 2 := ey30.trans (by decide)
                  refine lv_iadd hx hb dX4_turnRow_112 ?_
                  refine lv_topi (fun y31 ey31 => ?_)
                  obtain rfl : y31 = nI (st + 2) := ey31.trans (nIst st 2 (by decide))
                  refine lv_iload hx hb dX4_turnRow_113 (lv_at hl 1 rfl) ?_
                  refine va_iast hx hb hK hP hD hS 0 0 rfl rfl (nI_in (by omega) hn) dX4_turnRow_115 (fun H locs hP hD hS => ?_)
                  rw [show (nI (st + 2)).toNatClampNeg = st + 2 from nI_clamp (by omega)] at hP hD
                  have hP : va_P D vwCl [(a, .inl (cy 0, n, .inl (upd (upd (upd (upd f1 (st + 5) (f1 (st + 3))) (st + 3) ((upd f1 (st + 5) (f1 (st + 3))) (st + 4))) (st + 4) ((upd (upd f1 (st + 5) (f1 (st + 3))) (st + 3) ((upd f1 (st + 5) (f1 (st + 3))) (st + 4))) (st + 2))) (st + 2) (f1 (st + 5)))))] H := hP
                  have hD : va_D A [(a, .inl (cy 0, n, .inl (upd (upd (upd (upd f1 (st + 5) (f1 (st + 3))) (st + 3) ((upd f1 (st + 5) (f1 (st + 3))) (st + 4))) (st + 4) ((upd (upd f1 (st + 5) (f1 (st + 3))) (st + 3) ((upd f1 (st + 5) (f1 (st + 3))) (st + 4))) (st + 2))) (st + 2) (f1 (st + 5)))))] := hD
                  refine lv_iinc (v := nI (k + 1)) (lv' := [(7, .int (nI (k + 1))), (9, .int 0), (8, .int (f1 (st + 5))), (0, .ref a), (1, .int (nI st)), (5, .int (nI S)), (6, .int 0)]) hx hb dX4_turnRow_116 hl (k := 6) rfl ((nI_succ k).symm) (by decide) rfl (fun ls hl => ?_)
                  refine lv_goto (tgt := 39) hx hb dX4_turnRow_119 (by decide) ?_
                  exact ih_39 S 0 (k + 1) (upd (upd (upd (upd f1 (st + 5) (f1 (st + 3))) (st + 3) ((upd f1 (st + 5) (f1 (st + 3))) (st + 4))) (st + 4) ((upd (upd f1 (st + 5) (f1 (st + 3))) (st + 3) ((upd f1 (st + 5) (f1 (st + 3))) (st + 4))) (st + 2))) (st + 2) (f1 (st + 5))) hrg0 hS9 (by omega) (by show _ = rotR 0 st (itN (rotR 0 st) k f); rw [← hf]; exact (if_pos rfl).symm) hfin (by omega) _ _ _ (hP.sub [0] rfl) (hD.sub [0] (by decide) rfl) hS (lv_sub hl [3, 4, 5, 6, 0] rfl)
                · exact absurd c_67 (by decide)
        · refine lv_aload_n hx hb dX4_turnRow_46 rfl (lv_at hl 0 rfl) ?_
          refine lv_iload_n hx hb dX4_turnRow_47 rfl (lv_at hl 1 rfl) ?_
          refine va_gets hx hb zRG hS hown f_134 (fun _ h9 => h9) dX4_turnRow_48 ?_
          refine lv_iload hx hb dX4_turnRow_51 (lv_at hl 3 rfl) ?_
          refine lv_iconst (v := 4) hx hb dX4_turnRow_53 (by decide) ?_
          refine lv_iadd hx hb dX4_turnRow_54 ?_
          refine lv_topi (fun y32 ey32 => ?_)
          obtain rfl : y32 = 8 := ey32.trans (by decide)
          refine lv_iconst (v := 1) hx hb dX4_turnRow_55 (by decide) ?_
          refine lv_isub hx hb dX4_turnRow_56 ?_
          refine lv_topi (fun y33 ey33 => ?_)
          obtain rfl : y33 = 7 := ey33.trans (by decide)
          refine va_ti hx hb aRG hS (vi_c (by decide +kernel)) rfl dX4_turnRow_57 ?_
          refine lv_topi (fun y34 ey34 => ?_)
          obtain rfl : y34 = 3 := ey34.trans (by decide)
          refine lv_iadd hx hb dX4_turnRow_58 ?_
          refine lv_topi (fun y35 ey35 => ?_)
          obtain rfl : y35 = nI (st + 3) := ey35.trans (nIst st 3 (by decide))
          refine va_iald hx hb hK hP 0 0 rfl rfl (nI_in (by omega) hn) dX4_turnRow_59 ?_
          refine lv_topi (fun y36 ey36 => ?_)
          obtain rfl : y36 = f1 (st + 3) := ey36.trans (congrArg f1 (nI_clamp (by omega)))
          refine lv_istore (lv' := [(8, .int (f1 (st + 3))), (0, .ref a), (1, .int (nI st)), (5, .int (nI S)), (6, .int 4), (7, .int (nI k))]) hx hb dX4_turnRow_60 hl (by decide) rfl (fun ls hl => ?_)
          refine lv_iconst (v := 3) hx hb dX4_turnRow_62 (by decide) ?_
          refine lv_istore (lv' := [(9, .int 3), (8, .int (f1 (st + 3))), (0, .ref a), (1, .int (nI st)), (5, .int (nI S)), (6, .int 4), (7, .int (nI k))]) hx hb dX4_turnRow_63 hl (by decide) rfl (fun ls hl => ?_)
          refine lv_iload hx hb dX4_turnRow_65 (lv_at hl 0 rfl) ?_
          refine lv_if_le (tgt := 104) hx hb dX4_turnRow_67 (by decide) (fun c_67 => ?_) (fun c_67 => ?_)
          · exact absurd c_67 (by decide)
          · refine lv_aload_n hx hb dX4_turnRow_70 rfl (lv_at hl 2 rfl) ?_
            refine lv_iload_n hx hb dX4_turnRow_71 rfl (lv_at hl 3 rfl) ?_
            refine va_gets hx hb zRG hS hown f_134 (fun _ h9 => h9) dX4_turnRow_72 ?_
            refine lv_iload hx hb dX4_turnRow_75 (lv_at hl 5 rfl) ?_
            refine lv_iload hx hb dX4_turnRow_77 (lv_at hl 0 rfl) ?_
            refine lv_iadd hx hb dX4_turnRow_79 ?_
            refine lv_topi (fun y37 ey37 => ?_)
            obtain rfl : y37 = 7 := ey37.trans (by decide)
            refine va_ti hx hb aRG hS (vi_c (by decide +kernel)) rfl dX4_turnRow_80 ?_
            refine lv_topi (fun y38 ey38 => ?_)
            obtain rfl : y38 = 3 := ey38.trans (by decide)
            refine lv_iadd hx hb dX4_turnRow_81 ?_
            refine lv_topi (fun y39 ey39 => ?_)
            obtain rfl : y39 = nI (st + 3) := ey39.trans (nIst st 3 (by decide))
            refine lv_aload_n hx hb dX4_turnRow_82 rfl (lv_at hl 2 rfl) ?_
            refine lv_iload_n hx hb dX4_turnRow_83 rfl (lv_at hl 3 rfl) ?_
            refine va_gets hx hb zRG hS hown f_134 (fun _ h9 => h9) dX4_turnRow_84 ?_
            refine lv_iload hx hb dX4_turnRow_87 (lv_at hl 5 rfl) ?_
            refine lv_iload hx hb dX4_turnRow_89 (lv_at hl 0 rfl) ?_
            refine lv_iadd hx hb dX4_turnRow_91 ?_
            refine lv_topi (fun y40 ey40 => ?_)
            obtain rfl : y40 = 7 := ey40.trans (by decide)
            refine lv_iconst (v := 1) hx hb dX4_turnRow_92 (by decide) ?_
            refine lv_isub hx hb dX4_turnRow_93 ?_
            refine lv_topi (fun y41 ey41 => ?_)
            obtain rfl : y41 = 6 := ey41.trans (by decide)
            refine va_ti hx hb aRG hS (vi_c (by decide +kernel)) rfl dX4_turnRow_94 ?_
            refine lv_topi (fun y42 ey42 => ?_)
            obtain rfl : y42 = 1 := ey42.trans (by decide)
            refine lv_iadd hx hb dX4_turnRow_95 ?_
            refine lv_topi (fun y43 ey43 => ?_)
            obtain rfl : y43 = nI (st + 1) := ey43.trans (nIst st 1 (by decide))
            refine va_iald hx hb hK hP 0 0 rfl rfl (nI_in (by omega) hn) dX4_turnRow_96 ?_
            refine lv_topi (fun y44 ey44 => ?_)
            obtain rfl : y44 = f1 (st + 1) := ey44.trans (congrArg f1 (nI_clamp (by omega)))
            refine va_iast hx hb hK hP hD hS 0 0 rfl rfl (nI_in (by omega) hn) dX4_turnRow_97 (fun H locs hP hD hS => ?_)
            rw [show (nI (st + 3)).toNatClampNeg = st + 3 from nI_clamp (by omega)] at hP hD
            have hP : va_P D vwCl [(a, .inl (cy 0, n, .inl (upd f1 (st + 3) (f1 (st + 1)))))] H := hP
            have hD : va_D A [(a, .inl (cy 0, n, .inl (upd f1 (st + 3) (f1 (st + 1)))))] := hD
            refine lv_iinc (v := 2) (lv' := [(9, .int 2), (8, .int (f1 (st + 3))), (0, .ref a), (1, .int (nI st)), (5, .int (nI S)), (6, .int 4), (7, .int (nI k))]) hx hb dX4_turnRow_98 hl (k := 0) rfl (by decide) (by decide) rfl (fun ls hl => ?_)
            refine lv_goto (tgt := 65) hx hb dX4_turnRow_101 (by decide) ?_
            refine lv_iload hx hb dX4_turnRow_65 (lv_at hl 0 rfl) ?_
            refine lv_if_le (tgt := 104) hx hb dX4_turnRow_67 (by decide) (fun c_67 => ?_) (fun c_67 => ?_)
            · exact absurd c_67 (by decide)
            · refine lv_aload_n hx hb dX4_turnRow_70 rfl (lv_at hl 2 rfl) ?_
              refine lv_iload_n hx hb dX4_turnRow_71 rfl (lv_at hl 3 rfl) ?_
              refine va_gets hx hb zRG hS hown f_134 (fun _ h9 => h9) dX4_turnRow_72 ?_
              refine lv_iload hx hb dX4_turnRow_75 (lv_at hl 5 rfl) ?_
              refine lv_iload hx hb dX4_turnRow_77 (lv_at hl 0 rfl) ?_
              refine lv_iadd hx hb dX4_turnRow_79 ?_
              refine lv_topi (fun y45 ey45 => ?_)
              obtain rfl : y45 = 6 := ey45.trans (by decide)
              refine va_ti hx hb aRG hS (vi_c (by decide +kernel)) rfl dX4_turnRow_80 ?_
              refine lv_topi (fun y46 ey46 => ?_)
              obtain rfl : y46 = 1 := ey46.trans (by decide)
              refine lv_iadd hx hb dX4_turnRow_81 ?_
              refine lv_topi (fun y47 ey47 => ?_)
              obtain rfl : y47 = nI (st + 1) := ey47.trans (nIst st 1 (by decide))
              refine lv_aload_n hx hb dX4_turnRow_82 rfl (lv_at hl 2 rfl) ?_
              refine lv_iload_n hx hb dX4_turnRow_83 rfl (lv_at hl 3 rfl) ?_
              refine va_gets hx hb zRG hS hown f_134 (fun _ h9 => h9) dX4_turnRow_84 ?_
              refine lv_iload hx hb dX4_turnRow_87 (lv_at hl 5 rfl) ?_
              refine lv_iload hx hb dX4_turnRow_89 (lv_at hl 0 rfl) ?_
              refine lv_iadd hx hb dX4_turnRow_91 ?_
              refine lv_topi (fun y48 ey48 => ?_)
              obtain rfl : y48 = 6 := ey48.trans (by decide)
              refine lv_iconst (v := 1) hx hb dX4_turnRow_92 (by decide) ?_
              refine lv_isub hx hb dX4_turnRow_93 ?_
              refine lv_topi (fun y49 ey49 => ?_)
              obtain rfl : y49 = 5 := ey49.trans (by decide)
              refine va_ti hx hb aRG hS (vi_c (by decide +kernel)) rfl dX4_turnRow_94 ?_
              refine lv_topi (fun y50 ey50 => ?_)
              obtain rfl : y50 = 2 := ey50.trans (by decide)
              refine lv_iadd hx hb dX4_turnRow_95 ?_
              refine lv_topi (fun y51 ey51 => ?_)
              obtain rfl : y51 = nI (st + 2) := ey51.trans (nIst st 2 (by decide))
              refine va_iald hx hb hK hP 0 0 rfl rfl (nI_in (by omega) hn) dX4_turnRow_96 ?_
              refine lv_topi (fun y52 ey52 => ?_)
              obtain rfl : y52 = (upd f1 (st + 3) (f1 (st + 1))) (st + 2) := ey52.trans (congrArg (upd f1 (st + 3) (f1 (st + 1))) (nI_clamp (by omega)))
              refine va_iast hx hb hK hP hD hS 0 0 rfl rfl (nI_in (by omega) hn) dX4_turnRow_97 (fun H locs hP hD hS => ?_)
              rw [show (nI (st + 1)).toNatClampNeg = st + 1 from nI_clamp (by omega)] at hP hD
              have hP : va_P D vwCl [(a, .inl (cy 0, n, .inl (upd (upd f1 (st + 3) (f1 (st + 1))) (st + 1) ((upd f1 (st + 3) (f1 (st + 1))) (st + 2)))))] H := hP
              have hD : va_D A [(a, .inl (cy 0, n, .inl (upd (upd f1 (st + 3) (f1 (st + 1))) (st + 1) ((upd f1 (st + 3) (f1 (st + 1))) (st + 2)))))] := hD
              refine lv_iinc (v := 1) (lv' := [(9, .int 1), (8, .int (f1 (st + 3))), (0, .ref a), (1, .int (nI st)), (5, .int (nI S)), (6, .int 4), (7, .int (nI k))]) hx hb dX4_turnRow_98 hl (k := 0) rfl (by decide) (by decide) rfl (fun ls hl => ?_)
              refine lv_goto (tgt := 65) hx hb dX4_turnRow_101 (by decide) ?_
              refine lv_iload hx hb dX4_turnRow_65 (lv_at hl 0 rfl) ?_
              refine lv_if_le (tgt := 104) hx hb dX4_turnRow_67 (by decide) (fun c_67 => ?_) (fun c_67 => ?_)
              · exact absurd c_67 (by decide)
              · refine lv_aload_n hx hb dX4_turnRow_70 rfl (lv_at hl 2 rfl) ?_
                refine lv_iload_n hx hb dX4_turnRow_71 rfl (lv_at hl 3 rfl) ?_
                refine va_gets hx hb zRG hS hown f_134 (fun _ h9 => h9) dX4_turnRow_72 ?_
                refine lv_iload hx hb dX4_turnRow_75 (lv_at hl 5 rfl) ?_
                refine lv_iload hx hb dX4_turnRow_77 (lv_at hl 0 rfl) ?_
                refine lv_iadd hx hb dX4_turnRow_79 ?_
                refine lv_topi (fun y53 ey53 => ?_)
                obtain rfl : y53 = 5 := ey53.trans (by decide)
                refine va_ti hx hb aRG hS (vi_c (by decide +kernel)) rfl dX4_turnRow_80 ?_
                refine lv_topi (fun y54 ey54 => ?_)
                obtain rfl : y54 = 2 := ey54.trans (by decide)
                refine lv_iadd hx hb dX4_turnRow_81 ?_
                refine lv_topi (fun y55 ey55 => ?_)
                obtain rfl : y55 = nI (st + 2) := ey55.trans (nIst st 2 (by decide))
                refine lv_aload_n hx hb dX4_turnRow_82 rfl (lv_at hl 2 rfl) ?_
                refine lv_iload_n hx hb dX4_turnRow_83 rfl (lv_at hl 3 rfl) ?_
                refine va_gets hx hb zRG hS hown f_134 (fun _ h9 => h9) dX4_turnRow_84 ?_
                refine lv_iload hx hb dX4_turnRow_87 (lv_at hl 5 rfl) ?_
                refine lv_iload hx hb dX4_turnRow_89 (lv_at hl 0 rfl) ?_
                refine lv_iadd hx hb dX4_turnRow_91 ?_
                refine lv_topi (fun y56 ey56 => ?_)
                obtain rfl : y56 = 5 := ey56.trans (by decide)
                refine lv_iconst (v := 1) hx hb dX4_turnRow_92 (by decide) ?_
                refine lv_isub hx hb dX4_turnRow_93 ?_
                refine lv_topi (fun y57 ey57 => ?_)
                obtain rfl : y57 = 4 := ey57.trans (by decide)
                refine va_ti hx hb aRG hS (vi_c (by decide +kernel)) rfl dX4_turnRow_94 ?_
                refine lv_topi (fun y58 ey58 => ?_)
                obtain rfl : y58 = 0 := ey58.trans (by decide)
                refine lv_iadd hx hb dX4_turnRow_95 ?_
                refine lv_topi (fun y59 ey59 => ?_)
                obtain rfl : y59 = nI (st + 0) := ey59.trans (nIst st 0 (by decide))
                refine va_iald hx hb hK hP 0 0 rfl rfl (nI_in (by omega) hn) dX4_turnRow_96 ?_
                refine lv_topi (fun y60 ey60 => ?_)
                obtain rfl : y60 = (upd (upd f1 (st + 3) (f1 (st + 1))) (st + 1) ((upd f1 (st + 3) (f1 (st + 1))) (st + 2))) (st + 0) := ey60.trans (congrArg (upd (upd f1 (st + 3) (f1 (st + 1))) (st + 1) ((upd f1 (st + 3) (f1 (st + 1))) (st + 2))) (nI_clamp (by omega)))
                refine va_iast hx hb hK hP hD hS 0 0 rfl rfl (nI_in (by omega) hn) dX4_turnRow_97 (fun H locs hP hD hS => ?_)
                rw [show (nI (st + 2)).toNatClampNeg = st + 2 from nI_clamp (by omega)] at hP hD
                have hP : va_P D vwCl [(a, .inl (cy 0, n, .inl (upd (upd (upd f1 (st + 3) (f1 (st + 1))) (st + 1) ((upd f1 (st + 3) (f1 (st + 1))) (st + 2))) (st + 2) ((upd (upd f1 (st + 3) (f1 (st + 1))) (st + 1) ((upd f1 (st + 3) (f1 (st + 1))) (st + 2))) (st + 0)))))] H := hP
                have hD : va_D A [(a, .inl (cy 0, n, .inl (upd (upd (upd f1 (st + 3) (f1 (st + 1))) (st + 1) ((upd f1 (st + 3) (f1 (st + 1))) (st + 2))) (st + 2) ((upd (upd f1 (st + 3) (f1 (st + 1))) (st + 1) ((upd f1 (st + 3) (f1 (st + 1))) (st + 2))) (st + 0)))))] := hD
                refine lv_iinc (v := 0) (lv' := [(9, .int 0), (8, .int (f1 (st + 3))), (0, .ref a), (1, .int (nI st)), (5, .int (nI S)), (6, .int 4), (7, .int (nI k))]) hx hb dX4_turnRow_98 hl (k := 0) rfl (by decide) (by decide) rfl (fun ls hl => ?_)
                refine lv_goto (tgt := 65) hx hb dX4_turnRow_101 (by decide) ?_
                refine lv_iload hx hb dX4_turnRow_65 (lv_at hl 0 rfl) ?_
                refine lv_if_le (tgt := 104) hx hb dX4_turnRow_67 (by decide) (fun c_67 => ?_) (fun c_67 => ?_)
                · refine lv_aload_n hx hb dX4_turnRow_104 rfl (lv_at hl 2 rfl) ?_
                  refine lv_iload_n hx hb dX4_turnRow_105 rfl (lv_at hl 3 rfl) ?_
                  refine va_gets hx hb zRG hS hown f_134 (fun _ h9 => h9) dX4_turnRow_106 ?_
                  refine lv_iload hx hb dX4_turnRow_109 (lv_at hl 5 rfl) ?_
                  refine va_ti hx hb aRG hS (vi_c (by decide +kernel)) rfl dX4_turnRow_111 ?_
                  refine lv_topi (fun y61 ey61 => ?_)
                  obtain rfl : y61 = 0 := ey61.trans (by decide)
                  refine lv_iadd hx hb dX4_turnRow_112 ?_
                  refine lv_topi (fun y62 ey62 => ?_)
                  obtain rfl : y62 = nI (st + 0) := ey62.trans (nIst st 0 (by decide))
                  refine lv_iload hx hb dX4_turnRow_113 (lv_at hl 1 rfl) ?_
                  refine va_iast hx hb hK hP hD hS 0 0 rfl rfl (nI_in (by omega) hn) dX4_turnRow_115 (fun H locs hP hD hS => ?_)
                  rw [show (nI (st + 0)).toNatClampNeg = st + 0 from nI_clamp (by omega)] at hP hD
                  have hP : va_P D vwCl [(a, .inl (cy 0, n, .inl (upd (upd (upd (upd f1 (st + 3) (f1 (st + 1))) (st + 1) ((upd f1 (st + 3) (f1 (st + 1))) (st + 2))) (st + 2) ((upd (upd f1 (st + 3) (f1 (st + 1))) (st + 1) ((upd f1 (st + 3) (f1 (st + 1))) (st + 2))) (st + 0))) (st + 0) (f1 (st + 3)))))] H := hP
                  have hD : va_D A [(a, .inl (cy 0, n, .inl (upd (upd (upd (upd f1 (st + 3) (f1 (st + 1))) (st + 1) ((upd f1 (st + 3) (f1 (st + 1))) (st + 2))) (st + 2) ((upd (upd f1 (st + 3) (f1 (st + 1))) (st + 1) ((upd f1 (st + 3) (f1 (st + 1))) (st + 2))) (st + 0))) (st + 0) (f1 (st + 3)))))] := hD
                  refine lv_iinc (v := nI (k + 1)) (lv' := [(7, .int (nI (k + 1))), (9, .int 0), (8, .int (f1 (st + 3))), (0, .ref a), (1, .int (nI st)), (5, .int (nI S)), (6, .int 4)]) hx hb dX4_turnRow_116 hl (k := 6) rfl ((nI_succ k).symm) (by decide) rfl (fun ls hl => ?_)
                  refine lv_goto (tgt := 39) hx hb dX4_turnRow_119 (by decide) ?_
                  exact ih_39 S 4 (k + 1) (upd (upd (upd (upd f1 (st + 3) (f1 (st + 1))) (st + 1) ((upd f1 (st + 3) (f1 (st + 1))) (st + 2))) (st + 2) ((upd (upd f1 (st + 3) (f1 (st + 1))) (st + 1) ((upd f1 (st + 3) (f1 (st + 1))) (st + 2))) (st + 0))) (st + 0) (f1 (st + 3))) hrg0 hS9 (by omega) (by show _ = rotR 4 st (itN (rotR 4 st) k f); rw [← hf]; exact (if_neg (by decide)).symm) hfin (by omega) _ _ _ (hP.sub [0] rfl) (hD.sub [0] (by decide) rfl) hS (lv_sub hl [3, 4, 5, 6, 0] rfl)
                · exact absurd c_67 (by decide)
  rcases t4 ht with rfl | rfl | rfl | rfl
  · have hl : lv_has ls 10 [(0, .ref a), (1, .int (nI st)), (2, .int kd), (3, .int 0)] := hl
    refine lv_iload_n hx hb dX4_turnRow_0 rfl (lv_at hl 2 rfl) ?_
    refine lv_iconst (v := 4) hx hb dX4_turnRow_1 (by decide) ?_
    refine lv_icmp_ne (tgt := 9) hx hb dX4_turnRow_2 (by decide) (fun c_2 => ?_) (fun c_2 => ?_)
    · refine lv_iconst (v := 1) hx hb dX4_turnRow_9 (by decide) ?_
      refine lv_istore (lv' := [(4, .int 1), (0, .ref a), (1, .int (nI st)), (2, .int kd), (3, .int 0)]) hx hb dX4_turnRow_10 hl (by decide) rfl (fun ls hl => ?_)
      refine lv_iload_n hx hb dX4_turnRow_12 rfl (lv_at hl 4 rfl) ?_
      refine lv_iconst (v := 2) hx hb dX4_turnRow_13 (by decide) ?_
      refine lv_irem hx hb dX4_turnRow_14 (by decide) ?_
      refine lv_topi (fun y63 ey63 => ?_)
      obtain rfl : y63 = 0 := ey63.trans (by decide)
      refine lv_if_ne (tgt := 23) hx hb dX4_turnRow_15 (by decide) (fun c_15 => ?_) (fun c_15 => ?_)
      · exact absurd c_15 (by decide)
      · refine lv_iload hx hb dX4_turnRow_18 (lv_at hl 0 rfl) ?_
        refine lv_goto (tgt := 27) hx hb dX4_turnRow_20 (by decide) ?_
        refine lv_istore (lv' := [(5, .int 1), (4, .int 1), (0, .ref a), (1, .int (nI st)), (2, .int kd), (3, .int 0)]) hx hb dX4_turnRow_27 hl (by decide) rfl (fun ls hl => ?_)
        refine lv_iload_n hx hb dX4_turnRow_29 rfl (lv_at hl 5 rfl) ?_
        refine lv_iconst (v := 2) hx hb dX4_turnRow_30 (by decide) ?_
        refine lv_idiv hx hb dX4_turnRow_31 (by decide) ?_
        refine lv_topi (fun y64 ey64 => ?_)
        obtain rfl : y64 = 0 := ey64.trans (by decide)
        refine lv_iconst (v := 4) hx hb dX4_turnRow_32 (by decide) ?_
        refine lv_imul hx hb dX4_turnRow_33 ?_
        refine lv_topi (fun y65 ey65 => ?_)
        obtain rfl : y65 = 0 := ey65.trans (by decide)
        refine lv_istore (lv' := [(6, .int 0), (5, .int 1), (4, .int 1), (0, .ref a), (1, .int (nI st)), (2, .int kd), (3, .int 0)]) hx hb dX4_turnRow_34 hl (by decide) rfl (fun ls hl => ?_)
        refine lv_iconst (v := 0) hx hb dX4_turnRow_36 (by decide) ?_
        refine lv_istore (lv' := [(7, .int 0), (6, .int 0), (5, .int 1), (4, .int 1), (0, .ref a), (1, .int (nI st)), (2, .int kd), (3, .int 0)]) hx hb dX4_turnRow_37 hl (by decide) rfl (fun ls hl => ?_)
        exact lp_39 4 1 0 0 f (by decide) (by decide) (by decide) rfl (congrArg (fun z => itN (rotR 0 st) z f) (show 1 = tr_n kd 0 from (if_neg c_2).symm)) (by omega) _ _ _ (hP.sub [0] rfl) (hD.sub [0] (by decide) rfl) hS (lv_sub hl [4, 5, 2, 1, 0] rfl)
    · refine lv_iconst (v := 2) hx hb dX4_turnRow_5 (by decide) ?_
      refine lv_goto (tgt := 10) hx hb dX4_turnRow_6 (by decide) ?_
      refine lv_istore (lv' := [(4, .int 2), (0, .ref a), (1, .int (nI st)), (2, .int kd), (3, .int 0)]) hx hb dX4_turnRow_10 hl (by decide) rfl (fun ls hl => ?_)
      refine lv_iload_n hx hb dX4_turnRow_12 rfl (lv_at hl 4 rfl) ?_
      refine lv_iconst (v := 2) hx hb dX4_turnRow_13 (by decide) ?_
      refine lv_irem hx hb dX4_turnRow_14 (by decide) ?_
      refine lv_topi (fun y66 ey66 => ?_)
      obtain rfl : y66 = 0 := ey66.trans (by decide)
      refine lv_if_ne (tgt := 23) hx hb dX4_turnRow_15 (by decide) (fun c_15 => ?_) (fun c_15 => ?_)
      · exact absurd c_15 (by decide)
      · refine lv_iload hx hb dX4_turnRow_18 (lv_at hl 0 rfl) ?_
        refine lv_goto (tgt := 27) hx hb dX4_turnRow_20 (by decide) ?_
        refine lv_istore (lv' := [(5, .int 2), (4, .int 2), (0, .ref a), (1, .int (nI st)), (2, .int kd), (3, .int 0)]) hx hb dX4_turnRow_27 hl (by decide) rfl (fun ls hl => ?_)
        refine lv_iload_n hx hb dX4_turnRow_29 rfl (lv_at hl 5 rfl) ?_
        refine lv_iconst (v := 2) hx hb dX4_turnRow_30 (by decide) ?_
        refine lv_idiv hx hb dX4_turnRow_31 (by decide) ?_
        refine lv_topi (fun y67 ey67 => ?_)
        obtain rfl : y67 = 0 := ey67.trans (by decide)
        refine lv_iconst (v := 4) hx hb dX4_turnRow_32 (by decide) ?_
        refine lv_imul hx hb dX4_turnRow_33 ?_
        refine lv_topi (fun y68 ey68 => ?_)
        obtain rfl : y68 = 0 := ey68.trans (by decide)
        refine lv_istore (lv' := [(6, .int 0), (5, .int 2), (4, .int 2), (0, .ref a), (1, .int (nI st)), (2, .int kd), (3, .int 0)]) hx hb dX4_turnRow_34 hl (by decide) rfl (fun ls hl => ?_)
        refine lv_iconst (v := 0) hx hb dX4_turnRow_36 (by decide) ?_
        refine lv_istore (lv' := [(7, .int 0), (6, .int 0), (5, .int 2), (4, .int 2), (0, .ref a), (1, .int (nI st)), (2, .int kd), (3, .int 0)]) hx hb dX4_turnRow_37 hl (by decide) rfl (fun ls hl => ?_)
        exact lp_39 4 2 0 0 f (by decide) (by decide) (by decide) rfl (congrArg (fun z => itN (rotR 0 st) z f) (show 2 = tr_n kd 0 from (if_pos c_2).symm)) (by omega) _ _ _ (hP.sub [0] rfl) (hD.sub [0] (by decide) rfl) hS (lv_sub hl [4, 5, 2, 1, 0] rfl)
  · have hl : lv_has ls 10 [(0, .ref a), (1, .int (nI st)), (2, .int kd), (3, .int 1)] := hl
    refine lv_iload_n hx hb dX4_turnRow_0 rfl (lv_at hl 2 rfl) ?_
    refine lv_iconst (v := 4) hx hb dX4_turnRow_1 (by decide) ?_
    refine lv_icmp_ne (tgt := 9) hx hb dX4_turnRow_2 (by decide) (fun c_2 => ?_) (fun c_2 => ?_)
    · refine lv_iconst (v := 1) hx hb dX4_turnRow_9 (by decide) ?_
      refine lv_istore (lv' := [(4, .int 1), (0, .ref a), (1, .int (nI st)), (2, .int kd), (3, .int 1)]) hx hb dX4_turnRow_10 hl (by decide) rfl (fun ls hl => ?_)
      refine lv_iload_n hx hb dX4_turnRow_12 rfl (lv_at hl 4 rfl) ?_
      refine lv_iconst (v := 2) hx hb dX4_turnRow_13 (by decide) ?_
      refine lv_irem hx hb dX4_turnRow_14 (by decide) ?_
      refine lv_topi (fun y69 ey69 => ?_)
      obtain rfl : y69 = 1 := ey69.trans (by decide)
      refine lv_if_ne (tgt := 23) hx hb dX4_turnRow_15 (by decide) (fun c_15 => ?_) (fun c_15 => ?_)
      · refine lv_iconst (v := 4) hx hb dX4_turnRow_23 (by decide) ?_
        refine lv_iload hx hb dX4_turnRow_24 (lv_at hl 0 rfl) ?_
        refine lv_isub hx hb dX4_turnRow_26 ?_
        refine lv_topi (fun y70 ey70 => ?_)
        obtain rfl : y70 = 3 := ey70.trans (by decide)
        refine lv_istore (lv' := [(5, .int 3), (4, .int 1), (0, .ref a), (1, .int (nI st)), (2, .int kd), (3, .int 1)]) hx hb dX4_turnRow_27 hl (by decide) rfl (fun ls hl => ?_)
        refine lv_iload_n hx hb dX4_turnRow_29 rfl (lv_at hl 5 rfl) ?_
        refine lv_iconst (v := 2) hx hb dX4_turnRow_30 (by decide) ?_
        refine lv_idiv hx hb dX4_turnRow_31 (by decide) ?_
        refine lv_topi (fun y71 ey71 => ?_)
        obtain rfl : y71 = 0 := ey71.trans (by decide)
        refine lv_iconst (v := 4) hx hb dX4_turnRow_32 (by decide) ?_
        refine lv_imul hx hb dX4_turnRow_33 ?_
        refine lv_topi (fun y72 ey72 => ?_)
        obtain rfl : y72 = 0 := ey72.trans (by decide)
        refine lv_istore (lv' := [(6, .int 0), (5, .int 3), (4, .int 1), (0, .ref a), (1, .int (nI st)), (2, .int kd), (3, .int 1)]) hx hb dX4_turnRow_34 hl (by decide) rfl (fun ls hl => ?_)
        refine lv_iconst (v := 0) hx hb dX4_turnRow_36 (by decide) ?_
        refine lv_istore (lv' := [(7, .int 0), (6, .int 0), (5, .int 3), (4, .int 1), (0, .ref a), (1, .int (nI st)), (2, .int kd), (3, .int 1)]) hx hb dX4_turnRow_37 hl (by decide) rfl (fun ls hl => ?_)
        exact lp_39 4 3 0 0 f (by decide) (by decide) (by decide) rfl (congrArg (fun z => itN (rotR 0 st) z f) (show 3 = tr_n kd 1 from (if_neg c_2).symm)) (by omega) _ _ _ (hP.sub [0] rfl) (hD.sub [0] (by decide) rfl) hS (lv_sub hl [4, 5, 2, 1, 0] rfl)
      · exact absurd c_15 (by decide)
    · refine lv_iconst (v := 2) hx hb dX4_turnRow_5 (by decide) ?_
      refine lv_goto (tgt := 10) hx hb dX4_turnRow_6 (by decide) ?_
      refine lv_istore (lv' := [(4, .int 2), (0, .ref a), (1, .int (nI st)), (2, .int kd), (3, .int 1)]) hx hb dX4_turnRow_10 hl (by decide) rfl (fun ls hl => ?_)
      refine lv_iload_n hx hb dX4_turnRow_12 rfl (lv_at hl 4 rfl) ?_
      refine lv_iconst (v := 2) hx hb dX4_turnRow_13 (by decide) ?_
      refine lv_irem hx hb dX4_turnRow_14 (by decide) ?_
      refine lv_topi (fun y73 ey73 => ?_)
      obtain rfl : y73 = 1 := ey73.trans (by decide)
      refine lv_if_ne (tgt := 23) hx hb dX4_turnRow_15 (by decide) (fun c_15 => ?_) (fun c_15 => ?_)
      · refine lv_iconst (v := 4) hx hb dX4_turnRow_23 (by decide) ?_
        refine lv_iload hx hb dX4_turnRow_24 (lv_at hl 0 rfl) ?_
        refine lv_isub hx hb dX4_turnRow_26 ?_
        refine lv_topi (fun y74 ey74 => ?_)
        obtain rfl : y74 = 2 := ey74.trans (by decide)
        refine lv_istore (lv' := [(5, .int 2), (4, .int 2), (0, .ref a), (1, .int (nI st)), (2, .int kd), (3, .int 1)]) hx hb dX4_turnRow_27 hl (by decide) rfl (fun ls hl => ?_)
        refine lv_iload_n hx hb dX4_turnRow_29 rfl (lv_at hl 5 rfl) ?_
        refine lv_iconst (v := 2) hx hb dX4_turnRow_30 (by decide) ?_
        refine lv_idiv hx hb dX4_turnRow_31 (by decide) ?_
        refine lv_topi (fun y75 ey75 => ?_)
        obtain rfl : y75 = 0 := ey75.trans (by decide)
        refine lv_iconst (v := 4) hx hb dX4_turnRow_32 (by decide) ?_
        refine lv_imul hx hb dX4_turnRow_33 ?_
        refine lv_topi (fun y76 ey76 => ?_)
        obtain rfl : y76 = 0 := ey76.trans (by decide)
        refine lv_istore (lv' := [(6, .int 0), (5, .int 2), (4, .int 2), (0, .ref a), (1, .int (nI st)), (2, .int kd), (3, .int 1)]) hx hb dX4_turnRow_34 hl (by decide) rfl (fun ls hl => ?_)
        refine lv_iconst (v := 0) hx hb dX4_turnRow_36 (by decide) ?_
        refine lv_istore (lv' := [(7, .int 0), (6, .int 0), (5, .int 2), (4, .int 2), (0, .ref a), (1, .int (nI st)), (2, .int kd), (3, .int 1)]) hx hb dX4_turnRow_37 hl (by decide) rfl (fun ls hl => ?_)
        exact lp_39 4 2 0 0 f (by decide) (by decide) (by decide) rfl (congrArg (fun z => itN (rotR 0 st) z f) (show 2 = tr_n kd 1 from (if_pos c_2).symm)) (by omega) _ _ _ (hP.sub [0] rfl) (hD.sub [0] (by decide) rfl) hS (lv_sub hl [4, 5, 2, 1, 0] rfl)
      · exact absurd c_15 (by decide)
  · have hl : lv_has ls 10 [(0, .ref a), (1, .int (nI st)), (2, .int kd), (3, .int 2)] := hl
    refine lv_iload_n hx hb dX4_turnRow_0 rfl (lv_at hl 2 rfl) ?_
    refine lv_iconst (v := 4) hx hb dX4_turnRow_1 (by decide) ?_
    refine lv_icmp_ne (tgt := 9) hx hb dX4_turnRow_2 (by decide) (fun c_2 => ?_) (fun c_2 => ?_)
    · refine lv_iconst (v := 1) hx hb dX4_turnRow_9 (by decide) ?_
      refine lv_istore (lv' := [(4, .int 1), (0, .ref a), (1, .int (nI st)), (2, .int kd), (3, .int 2)]) hx hb dX4_turnRow_10 hl (by decide) rfl (fun ls hl => ?_)
      refine lv_iload_n hx hb dX4_turnRow_12 rfl (lv_at hl 4 rfl) ?_
      refine lv_iconst (v := 2) hx hb dX4_turnRow_13 (by decide) ?_
      refine lv_irem hx hb dX4_turnRow_14 (by decide) ?_
      refine lv_topi (fun y77 ey77 => ?_)
      obtain rfl : y77 = 0 := ey77.trans (by decide)
      refine lv_if_ne (tgt := 23) hx hb dX4_turnRow_15 (by decide) (fun c_15 => ?_) (fun c_15 => ?_)
      · exact absurd c_15 (by decide)
      · refine lv_iload hx hb dX4_turnRow_18 (lv_at hl 0 rfl) ?_
        refine lv_goto (tgt := 27) hx hb dX4_turnRow_20 (by decide) ?_
        refine lv_istore (lv' := [(5, .int 1), (4, .int 1), (0, .ref a), (1, .int (nI st)), (2, .int kd), (3, .int 2)]) hx hb dX4_turnRow_27 hl (by decide) rfl (fun ls hl => ?_)
        refine lv_iload_n hx hb dX4_turnRow_29 rfl (lv_at hl 5 rfl) ?_
        refine lv_iconst (v := 2) hx hb dX4_turnRow_30 (by decide) ?_
        refine lv_idiv hx hb dX4_turnRow_31 (by decide) ?_
        refine lv_topi (fun y78 ey78 => ?_)
        obtain rfl : y78 = 1 := ey78.trans (by decide)
        refine lv_iconst (v := 4) hx hb dX4_turnRow_32 (by decide) ?_
        refine lv_imul hx hb dX4_turnRow_33 ?_
        refine lv_topi (fun y79 ey79 => ?_)
        obtain rfl : y79 = 4 := ey79.trans (by decide)
        refine lv_istore (lv' := [(6, .int 4), (5, .int 1), (4, .int 1), (0, .ref a), (1, .int (nI st)), (2, .int kd), (3, .int 2)]) hx hb dX4_turnRow_34 hl (by decide) rfl (fun ls hl => ?_)
        refine lv_iconst (v := 0) hx hb dX4_turnRow_36 (by decide) ?_
        refine lv_istore (lv' := [(7, .int 0), (6, .int 4), (5, .int 1), (4, .int 1), (0, .ref a), (1, .int (nI st)), (2, .int kd), (3, .int 2)]) hx hb dX4_turnRow_37 hl (by decide) rfl (fun ls hl => ?_)
        exact lp_39 4 1 4 0 f (by decide) (by decide) (by decide) rfl (congrArg (fun z => itN (rotR 4 st) z f) (show 1 = tr_n kd 2 from (if_neg c_2).symm)) (by omega) _ _ _ (hP.sub [0] rfl) (hD.sub [0] (by decide) rfl) hS (lv_sub hl [4, 5, 2, 1, 0] rfl)
    · refine lv_iconst (v := 2) hx hb dX4_turnRow_5 (by decide) ?_
      refine lv_goto (tgt := 10) hx hb dX4_turnRow_6 (by decide) ?_
      refine lv_istore (lv' := [(4, .int 2), (0, .ref a), (1, .int (nI st)), (2, .int kd), (3, .int 2)]) hx hb dX4_turnRow_10 hl (by decide) rfl (fun ls hl => ?_)
      refine lv_iload_n hx hb dX4_turnRow_12 rfl (lv_at hl 4 rfl) ?_
      refine lv_iconst (v := 2) hx hb dX4_turnRow_13 (by decide) ?_
      refine lv_irem hx hb dX4_turnRow_14 (by decide) ?_
      refine lv_topi (fun y80 ey80 => ?_)
      obtain rfl : y80 = 0 := ey80.trans (by decide)
      refine lv_if_ne (tgt := 23) hx hb dX4_turnRow_15 (by decide) (fun c_15 => ?_) (fun c_15 => ?_)
      · exact absurd c_15 (by decide)
      · refine lv_iload hx hb dX4_turnRow_18 (lv_at hl 0 rfl) ?_
        refine lv_goto (tgt := 27) hx hb dX4_turnRow_20 (by decide) ?_
        refine lv_istore (lv' := [(5, .int 2), (4, .int 2), (0, .ref a), (1, .int (nI st)), (2, .int kd), (3, .int 2)]) hx hb dX4_turnRow_27 hl (by decide) rfl (fun ls hl => ?_)
        refine lv_iload_n hx hb dX4_turnRow_29 rfl (lv_at hl 5 rfl) ?_
        refine lv_iconst (v := 2) hx hb dX4_turnRow_30 (by decide) ?_
        refine lv_idiv hx hb dX4_turnRow_31 (by decide) ?_
        refine lv_topi (fun y81 ey81 => ?_)
        obtain rfl : y81 = 1 := ey81.trans (by decide)
        refine lv_iconst (v := 4) hx hb dX4_turnRow_32 (by decide) ?_
        refine lv_imul hx hb dX4_turnRow_33 ?_
        refine lv_topi (fun y82 ey82 => ?_)
        obtain rfl : y82 = 4 := ey82.trans (by decide)
        refine lv_istore (lv' := [(6, .int 4), (5, .int 2), (4, .int 2), (0, .ref a), (1, .int (nI st)), (2, .int kd), (3, .int 2)]) hx hb dX4_turnRow_34 hl (by decide) rfl (fun ls hl => ?_)
        refine lv_iconst (v := 0) hx hb dX4_turnRow_36 (by decide) ?_
        refine lv_istore (lv' := [(7, .int 0), (6, .int 4), (5, .int 2), (4, .int 2), (0, .ref a), (1, .int (nI st)), (2, .int kd), (3, .int 2)]) hx hb dX4_turnRow_37 hl (by decide) rfl (fun ls hl => ?_)
        exact lp_39 4 2 4 0 f (by decide) (by decide) (by decide) rfl (congrArg (fun z => itN (rotR 4 st) z f) (show 2 = tr_n kd 2 from (if_pos c_2).symm)) (by omega) _ _ _ (hP.sub [0] rfl) (hD.sub [0] (by decide) rfl) hS (lv_sub hl [4, 5, 2, 1, 0] rfl)
  · have hl : lv_has ls 10 [(0, .ref a), (1, .int (nI st)), (2, .int kd), (3, .int 3)] := hl
    refine lv_iload_n hx hb dX4_turnRow_0 rfl (lv_at hl 2 rfl) ?_
    refine lv_iconst (v := 4) hx hb dX4_turnRow_1 (by decide) ?_
    refine lv_icmp_ne (tgt := 9) hx hb dX4_turnRow_2 (by decide) (fun c_2 => ?_) (fun c_2 => ?_)
    · refine lv_iconst (v := 1) hx hb dX4_turnRow_9 (by decide) ?_
      refine lv_istore (lv' := [(4, .int 1), (0, .ref a), (1, .int (nI st)), (2, .int kd), (3, .int 3)]) hx hb dX4_turnRow_10 hl (by decide) rfl (fun ls hl => ?_)
      refine lv_iload_n hx hb dX4_turnRow_12 rfl (lv_at hl 4 rfl) ?_
      refine lv_iconst (v := 2) hx hb dX4_turnRow_13 (by decide) ?_
      refine lv_irem hx hb dX4_turnRow_14 (by decide) ?_
      refine lv_topi (fun y83 ey83 => ?_)
      obtain rfl : y83 = 1 := ey83.trans (by decide)
      refine lv_if_ne (tgt := 23) hx hb dX4_turnRow_15 (by decide) (fun c_15 => ?_) (fun c_15 => ?_)
      · refine lv_iconst (v := 4) hx hb dX4_turnRow_23 (by decide) ?_
        refine lv_iload hx hb dX4_turnRow_24 (lv_at hl 0 rfl) ?_
        refine lv_isub hx hb dX4_turnRow_26 ?_
        refine lv_topi (fun y84 ey84 => ?_)
        obtain rfl : y84 = 3 := ey84.trans (by decide)
        refine lv_istore (lv' := [(5, .int 3), (4, .int 1), (0, .ref a), (1, .int (nI st)), (2, .int kd), (3, .int 3)]) hx hb dX4_turnRow_27 hl (by decide) rfl (fun ls hl => ?_)
        refine lv_iload_n hx hb dX4_turnRow_29 rfl (lv_at hl 5 rfl) ?_
        refine lv_iconst (v := 2) hx hb dX4_turnRow_30 (by decide) ?_
        refine lv_idiv hx hb dX4_turnRow_31 (by decide) ?_
        refine lv_topi (fun y85 ey85 => ?_)
        obtain rfl : y85 = 1 := ey85.trans (by decide)
        refine lv_iconst (v := 4) hx hb dX4_turnRow_32 (by decide) ?_
        refine lv_imul hx hb dX4_turnRow_33 ?_
        refine lv_topi (fun y86 ey86 => ?_)
        obtain rfl : y86 = 4 := ey86.trans (by decide)
        refine lv_istore (lv' := [(6, .int 4), (5, .int 3), (4, .int 1), (0, .ref a), (1, .int (nI st)), (2, .int kd), (3, .int 3)]) hx hb dX4_turnRow_34 hl (by decide) rfl (fun ls hl => ?_)
        refine lv_iconst (v := 0) hx hb dX4_turnRow_36 (by decide) ?_
        refine lv_istore (lv' := [(7, .int 0), (6, .int 4), (5, .int 3), (4, .int 1), (0, .ref a), (1, .int (nI st)), (2, .int kd), (3, .int 3)]) hx hb dX4_turnRow_37 hl (by decide) rfl (fun ls hl => ?_)
        exact lp_39 4 3 4 0 f (by decide) (by decide) (by decide) rfl (congrArg (fun z => itN (rotR 4 st) z f) (show 3 = tr_n kd 3 from (if_neg c_2).symm)) (by omega) _ _ _ (hP.sub [0] rfl) (hD.sub [0] (by decide) rfl) hS (lv_sub hl [4, 5, 2, 1, 0] rfl)
      · exact absurd c_15 (by decide)
    · refine lv_iconst (v := 2) hx hb dX4_turnRow_5 (by decide) ?_
      refine lv_goto (tgt := 10) hx hb dX4_turnRow_6 (by decide) ?_
      refine lv_istore (lv' := [(4, .int 2), (0, .ref a), (1, .int (nI st)), (2, .int kd), (3, .int 3)]) hx hb dX4_turnRow_10 hl (by decide) rfl (fun ls hl => ?_)
      refine lv_iload_n hx hb dX4_turnRow_12 rfl (lv_at hl 4 rfl) ?_
      refine lv_iconst (v := 2) hx hb dX4_turnRow_13 (by decide) ?_
      refine lv_irem hx hb dX4_turnRow_14 (by decide) ?_
      refine lv_topi (fun y87 ey87 => ?_)
      obtain rfl : y87 = 1 := ey87.trans (by decide)
      refine lv_if_ne (tgt := 23) hx hb dX4_turnRow_15 (by decide) (fun c_15 => ?_) (fun c_15 => ?_)
      · refine lv_iconst (v := 4) hx hb dX4_turnRow_23 (by decide) ?_
        refine lv_iload hx hb dX4_turnRow_24 (lv_at hl 0 rfl) ?_
        refine lv_isub hx hb dX4_turnRow_26 ?_
        refine lv_topi (fun y88 ey88 => ?_)
        obtain rfl : y88 = 2 := ey88.trans (by decide)
        refine lv_istore (lv' := [(5, .int 2), (4, .int 2), (0, .ref a), (1, .int (nI st)), (2, .int kd), (3, .int 3)]) hx hb dX4_turnRow_27 hl (by decide) rfl (fun ls hl => ?_)
        refine lv_iload_n hx hb dX4_turnRow_29 rfl (lv_at hl 5 rfl) ?_
        refine lv_iconst (v := 2) hx hb dX4_turnRow_30 (by decide) ?_
        refine lv_idiv hx hb dX4_turnRow_31 (by decide) ?_
        refine lv_topi (fun y89 ey89 => ?_)
        obtain rfl : y89 = 1 := ey89.trans (by decide)
        refine lv_iconst (v := 4) hx hb dX4_turnRow_32 (by decide) ?_
        refine lv_imul hx hb dX4_turnRow_33 ?_
        refine lv_topi (fun y90 ey90 => ?_)
        obtain rfl : y90 = 4 := ey90.trans (by decide)
        refine lv_istore (lv' := [(6, .int 4), (5, .int 2), (4, .int 2), (0, .ref a), (1, .int (nI st)), (2, .int kd), (3, .int 3)]) hx hb dX4_turnRow_34 hl (by decide) rfl (fun ls hl => ?_)
        refine lv_iconst (v := 0) hx hb dX4_turnRow_36 (by decide) ?_
        refine lv_istore (lv' := [(7, .int 0), (6, .int 4), (5, .int 2), (4, .int 2), (0, .ref a), (1, .int (nI st)), (2, .int kd), (3, .int 3)]) hx hb dX4_turnRow_37 hl (by decide) rfl (fun ls hl => ?_)
        exact lp_39 4 2 4 0 f (by decide) (by decide) (by decide) rfl (congrArg (fun z => itN (rotR 4 st) z f) (show 2 = tr_n kd 3 from (if_pos c_2).symm)) (by omega) _ _ _ (hP.sub [0] rfl) (hD.sub [0] (by decide) rfl) hS (lv_sub hl [4, 5, 2, 1, 0] rfl)
      · exact absurd c_15 (by decide)
end
section
def sameR (f : Nat → Int32) (a b : Nat) : Prop := ∀ j, j < 6 → f (a * 6 + j) = f (b * 6 + j)
theorem nI6 (a k : Nat) : nI (a * 6) + nI k = nI (a * 6 + k) := nIa _ _
theorem nIx6 (a : Nat) : nI a * 6 = nI (a * 6) := nIm a 6
theorem upd_P {P : Int32 → Prop} {f : Nat → Int32} {k : Nat} {x : Int32} (h : ∀ j, P (f j)) (hx : P x) : ∀ j, P (upd f k x j) := by
  intro j
  unfold upd
  split
  · exact hx
  · exact h j
theorem cpy_P {P : Int32 → Prop} {f g : Nat → Int32} {a b n : Nat} (h : ∀ j, P (f j)) (hg : ∀ j, P (g j)) : ∀ j, P (va_cpy f g a b n j) := by
  intro j
  unfold va_cpy
  split
  · exact h _
  · exact hg j
theorem rotA_P {P : Int32 → Prop} {f : Nat → Int32} {st : Nat} (h : ∀ j, P (f j)) : ∀ j, P (rotA st f j) := upd_P (upd_P (upd_P (upd_P h (h _)) (upd_P h (h _) _)) (upd_P (upd_P h (h _)) (upd_P h (h _) _) _)) (h _)
theorem rotB_P {P : Int32 → Prop} {f : Nat → Int32} {st : Nat} (h : ∀ j, P (f j)) : ∀ j, P (rotB st f j) := upd_P (upd_P (upd_P (upd_P h (h _)) (upd_P h (h _) _)) (upd_P (upd_P h (h _)) (upd_P h (h _) _) _)) (h _)
theorem rotR_P {P : Int32 → Prop} {f : Nat → Int32} {rg : Int32} {st : Nat} (h : ∀ j, P (f j)) : ∀ j, P (rotR rg st f j) := by
  unfold rotR
  split
  · exact rotA_P h
  · exact rotB_P h
theorem itN_P {P : Int32 → Prop} {rg : Int32} {st : Nat} {f : Nat → Int32} (h : ∀ j, P (f j)) : ∀ n j, P (itN (rotR rg st) n f j)
  | 0, j => h j
  | n + 1, j => rotR_P (itN_P h n) j
theorem tr_P {P : Int32 → Prop} {kd : Int32} {t st : Nat} {f : Nat → Int32} (h : ∀ j, P (f j)) : ∀ j, P (tr_f kd t st f j) := itN_P h _
def okv (x : Int32) : Prop := ¬ x < 0 ∧ x < 6
def q_X3_sameRows (cy : Nat → ClassId) (h0 : Nat) (q1 : Nat) (q2 : Nat) (q3 : Nat) (zv : Int32) (f : Nat → Int32) (a : Nat) (b : Nat) : Int32 → va_W → Prop := fun (r : Int32) (u : va_W) => u = [(h0, .inr (3, [.int zv, .ref q1, .ref q2, .ref q3])), (q1, .inl (cy 0, 150, .inl f))] ∧ ((r = 1 ∧ sameR f a b) ∨ (r = 0 ∧ ¬ sameR f a b))
set_option maxHeartbeats 4000000 in
set_option maxRecDepth 100000 in
theorem c_X3_sameRows (l : Launch) (D : va_G) (cy : Nat → ClassId) (sz : Nat) (h0 : Nat) (q1 : Nat) (q2 : Nat) (q3 : Nat) (zv : Int32) (f : Nat → Int32) (a : Nat) (b : Nat) (ha : a ≤ 24) (hb9 : b ≤ 24) : Met l yX3_sameRows wsX3_sameRows ({ frames := 0, cells := 0, slots := 0, locals := 0 } : Room) (va_Pc [.ref h0, .int (nI a), .int (nI b)] (cpre D cy [(h0, .inr (3, [.int zv, .ref q1, .ref q2, .ref q3])), (q1, .inl (cy 0, 150, .inl f))] sz)) (va_Qi (q_X3_sameRows cy h0 q1 q2 q3 zv f a b) (cpost D (va_A [(h0, .inr (3, [.int zv, .ref q1, .ref q2, .ref q3])), (q1, .inl (cy 0, 150, .inl f))] sz)) (va_A [(h0, .inr (3, [.int zv, .ref q1, .ref q2, .ref q3])), (q1, .inl (cy 0, 150, .inl f))] sz)) 0 0 (va_A [(h0, .inr (3, [.int zv, .ref q1, .ref q2, .ref q3])), (q1, .inl (cy 0, 150, .inl f))] sz) := by
  refine Met.ofW (cc := cX3_sameRows) (maxL := 4) (ret := (some .boolean)) (by decide) rfl ?_
  intro p e s m args below meth c s₁ B hml hv
  obtain ⟨rfl, hsz, hP, hD0, hX⟩ := hv
  have hx := B.exec
  have hb := B.bytes
  have hr := B.returns
  have hts := atoms_spec (ws := wsX3_sameRows) B.pre
  have hown : s.vm.findClass RX3 = some m.cls := findClass_of_methodNamed B.named
  have hlocks := B.notSynchronized
  subst hsz
  have hD := hD0.self (sz := s.heap.size)
  generalize hAe : va_A [(h0, .inr (3, [.int zv, .ref q1, .ref q2, .ref q3])), (q1, .inl (cy 0, 150, .inl f))] s.heap.size = A at hD hX ⊢
  have hA : ∀ q : Nat, s.heap.size ≤ q → A q := fun q h => by rw [← hAe]; exact Or.inr h
  obtain ⟨H, hH⟩ : ∃ H : Heap, H = s.heap := ⟨_, rfl⟩
  have hS : va_S A s.heap H [] := hH ▸ va_S.rf
  have hK := hX.1
  have hP : va_P D vwCl [(h0, .inr (3, [.int zv, .ref q1, .ref q2, .ref q3])), (q1, .inl (cy 0, 150, .inl f))] H := hH ▸ hP
  rw [← hH]
  have hw_X3 : ∀ w ∈ wsX30, w ∈ wsX3_sameRows := by decide +kernel
  have f_15 := hts (.fieldLink RX3 15 "CubeTower$Ways" "sideAt" "[I") (by decide +kernel)
  have hl := lv_entry ([.ref h0, .int (nI a), .int (nI b)]) (n := 4) (Nat.le_of_ble_eq_true rfl)
  rw [lg_entry_eq]
  generalize (lg_sl ([.ref h0, .int (nI a), .int (nI b)]) ++ List.replicate (4 - (lg_sl ([.ref h0, .int (nI a), .int (nI b)])).length) Slot.unset).toArray = ls at hl ⊢
  have hl : lv_has ls 4 [(0, .ref h0), (1, .int (nI a)), (2, .int (nI b))] := hl
  refine lv_iconst (v := 0) hx hb dX3_sameRows_0 (by decide) ?_
  refine lv_istore_n (lv' := [(3, .int 0), (0, .ref h0), (1, .int (nI a)), (2, .int (nI b))]) hx hb dX3_sameRows_1 rfl hl (by decide) rfl (fun ls hl => ?_)
  have lp_2 : ∀ (n_2 : Nat) (k : Nat) (hk : k ≤ 6) (hI : ∀ j, j < k → f (a * 6 + j) = f (b * 6 + j)) (hm : 6 < k + n_2) (H : Heap) (locs : List Loc) (ls : Array Slot), va_P D vwCl [(h0, .inr (3, [.int zv, .ref q1, .ref q2, .ref q3])), (q1, .inl (cy 0, 150, .inl f))] H → va_D A [(h0, .inr (3, [.int zv, .ref q1, .ref q2, .ref q3])), (q1, .inl (cy 0, 150, .inl f))] → va_S A s.heap H locs → lv_has ls 4 [(0, .ref h0), (1, .int (nI a)), (2, .int (nI b)), (3, .int (nI k))] → W p l e (headSpec wsX3_sameRows ({ frames := 0, cells := 0, slots := 0, locals := 0 } : Room)).room s m ([.ref h0, .int (nI a), .int (nI b)] : List Value).toArray below meth c H locs 0 0 (MQ below (va_Qi (q_X3_sameRows cy h0 q1 q2 q3 zv f a b) (cpost D A) A) ([.ref h0, .int (nI a), .int (nI b)] : List Value).toArray s 0 0 A) (F0 m 2 ls []) := by
    intro n_2
    induction n_2 with
    | zero => intro k hk hI hm; exact absurd hm (by omega)
    | succ n_2 ih_2 =>
      intro k hk hI hm H locs ls hP hD hS hl
      refine lv_iload_n hx hb dX3_sameRows_2 rfl (lv_at hl 3 rfl) ?_
      refine lv_bipush (v := 6) hx hb dX3_sameRows_3 (by decide) ?_
      refine lv_icmp_ge (tgt := 41) hx hb dX3_sameRows_5 (by decide) (fun c_5 => ?_) (fun c_5 => ?_)
      · have hk6 : 6 ≤ k := nI_leN (b := 6) (by decide) c_5
        refine lv_iconst (v := 1) hx hb dX3_sameRows_41 (by decide) ?_
        have hP9 := hP.sub (ws' := [(h0, .inr (3, [.int zv, .ref q1, .ref q2, .ref q3])), (q1, .inl (cy 0, 150, .inl f))]) [0, 1] rfl
        have hD9 := hD.sub (ws' := [(h0, .inr (3, [.int zv, .ref q1, .ref q2, .ref q3])), (q1, .inl (cy 0, 150, .inl f))]) [0, 1] (by decide) rfl
        exact W.zret (v := 1) hx hb hr (rfl) (fun t9 ht9 hW9 => ⟨⟨1, [(h0, .inr (3, [.int zv, .ref q1, .ref q2, .ref q3])), (q1, .inl (cy 0, 150, .inl f))], rfl, ⟨rfl, (Or.inl ⟨rfl, fun j h => hI j (by omega)⟩)⟩, by rw [ht9]; exact hP9, hD9⟩, hS.F ht9⟩) hS.2.2 dX3_sameRows_42
      · have hk6 : k < 6 := nI_ltN (b := 6) (by omega) c_5
        refine lv_aload_n hx hb dX3_sameRows_8 rfl (lv_at hl 0 rfl) ?_
        refine va_get (D := D) (ci := 3) (v := .ref q1) (C := RX3) (T := TX3) (N := 4) hx hb hts hw_X3 hown hK hP 0 rfl rfl 1 (by decide) f_15 (fun _ h9 => h9) rfl dX3_sameRows_9 ?_
        refine lv_iload_n hx hb dX3_sameRows_12 rfl (lv_at hl 1 rfl) ?_
        refine lv_bipush (v := 6) hx hb dX3_sameRows_13 (by decide) ?_
        refine lv_imul hx hb dX3_sameRows_15 ?_
        refine lv_topi (fun y1 ey1 => ?_)
        obtain rfl : y1 = nI (a * 6) := ey1.trans (nIx6 a)
        refine lv_iload_n hx hb dX3_sameRows_16 rfl (lv_at hl 3 rfl) ?_
        refine lv_iadd hx hb dX3_sameRows_17 ?_
        refine lv_topi (fun y2 ey2 => ?_)
        obtain rfl : y2 = nI (a * 6 + k) := ey2.trans (nI6 a k)
        refine va_iald hx hb hK hP 1 0 rfl rfl (nI_in (by omega) (by decide)) dX3_sameRows_18 ?_
        refine lv_topi (fun y3 ey3 => ?_)
        obtain rfl : y3 = f (a * 6 + k) := ey3.trans (congrArg f (nI_clamp (by omega)))
        refine lv_aload_n hx hb dX3_sameRows_19 rfl (lv_at hl 0 rfl) ?_
        refine va_get (D := D) (ci := 3) (v := .ref q1) (C := RX3) (T := TX3) (N := 4) hx hb hts hw_X3 hown hK hP 0 rfl rfl 1 (by decide) f_15 (fun _ h9 => h9) rfl dX3_sameRows_20 ?_
        refine lv_iload_n hx hb dX3_sameRows_23 rfl (lv_at hl 2 rfl) ?_
        refine lv_bipush (v := 6) hx hb dX3_sameRows_24 (by decide) ?_
        refine lv_imul hx hb dX3_sameRows_26 ?_
        refine lv_topi (fun y4 ey4 => ?_)
        obtain rfl : y4 = nI (b * 6) := ey4.trans (nIx6 b)
        refine lv_iload_n hx hb dX3_sameRows_27 rfl (lv_at hl 3 rfl) ?_
        refine lv_iadd hx hb dX3_sameRows_28 ?_
        refine lv_topi (fun y5 ey5 => ?_)
        obtain rfl : y5 = nI (b * 6 + k) := ey5.trans (nI6 b k)
        refine va_iald hx hb hK hP 1 0 rfl rfl (nI_in (by omega) (by decide)) dX3_sameRows_29 ?_
        refine lv_topi (fun y6 ey6 => ?_)
        obtain rfl : y6 = f (b * 6 + k) := ey6.trans (congrArg f (nI_clamp (by omega)))
        refine lv_icmp_eq (tgt := 35) hx hb dX3_sameRows_30 (by decide) (fun c_30 => ?_) (fun c_30 => ?_)
        · refine lv_iinc (v := nI (k + 1)) (lv' := [(3, .int (nI (k + 1))), (0, .ref h0), (1, .int (nI a)), (2, .int (nI b))]) hx hb dX3_sameRows_35 hl (k := 3) rfl ((nI_succ k).symm) (by decide) rfl (fun ls hl => ?_)
          refine lv_goto (tgt := 2) hx hb dX3_sameRows_38 (by decide) ?_
          exact ih_2 (k + 1) (by omega) (fun j h => (Nat.lt_succ_iff_lt_or_eq.mp h).elim (hI j) (fun q => by rw [q]; exact c_30)) (by omega) _ _ _ (hP.sub [0, 1] rfl) (hD.sub [0, 1] (by decide) rfl) hS (lv_sub hl [1, 2, 3, 0] rfl)
        · refine lv_iconst (v := 0) hx hb dX3_sameRows_33 (by decide) ?_
          have hP9 := hP.sub (ws' := [(h0, .inr (3, [.int zv, .ref q1, .ref q2, .ref q3])), (q1, .inl (cy 0, 150, .inl f))]) [0, 1] rfl
          have hD9 := hD.sub (ws' := [(h0, .inr (3, [.int zv, .ref q1, .ref q2, .ref q3])), (q1, .inl (cy 0, 150, .inl f))]) [0, 1] (by decide) rfl
          exact W.zret (v := 0) hx hb hr (rfl) (fun t9 ht9 hW9 => ⟨⟨0, [(h0, .inr (3, [.int zv, .ref q1, .ref q2, .ref q3])), (q1, .inl (cy 0, 150, .inl f))], rfl, ⟨rfl, (Or.inr ⟨rfl, fun h => c_30 (h k hk6)⟩)⟩, by rw [ht9]; exact hP9, hD9⟩, hS.F ht9⟩) hS.2.2 dX3_sameRows_34
  exact lp_2 7 0 (by decide) (fun j h => absurd h (Nat.not_lt_zero j)) (by omega) _ _ _ (hP.sub [0, 1] rfl) (hD.sub [0, 1] (by decide) rfl) hS (lv_sub hl [1, 2, 3, 0] rfl)
def q_X3_find (cy : Nat → ClassId) (h0 : Nat) (q1 : Nat) (q2 : Nat) (q3 : Nat) (z : Nat) (f : Nat → Int32) : Int32 → va_W → Prop := fun (r : Int32) (u : va_W) => ∃ (w : Nat), u = [(h0, .inr (3, [.int (nI z), .ref q1, .ref q2, .ref q3])), (q1, .inl (cy 0, 150, .inl f))] ∧ r = nI w ∧ w ≤ z ∧ (∀ v, v < w → ¬ sameR f v z) ∧ (w < z → sameR f w z)
set_option maxHeartbeats 4000000 in
set_option maxRecDepth 100000 in
theorem c_X3_find (l : Launch) (D : va_G) (cy : Nat → ClassId) (sz : Nat) (h0 : Nat) (q1 : Nat) (q2 : Nat) (q3 : Nat) (z : Nat) (f : Nat → Int32) (hz : z ≤ 24) : Met l yX3_find wsX3_find ({ frames := 1, cells := 0, slots := 0, locals := 23 } : Room) (va_Pc [.ref h0] (cpre D cy [(h0, .inr (3, [.int (nI z), .ref q1, .ref q2, .ref q3])), (q1, .inl (cy 0, 150, .inl f))] sz)) (va_Qi (q_X3_find cy h0 q1 q2 q3 z f) (cpost D (va_A [(h0, .inr (3, [.int (nI z), .ref q1, .ref q2, .ref q3])), (q1, .inl (cy 0, 150, .inl f))] sz)) (va_A [(h0, .inr (3, [.int (nI z), .ref q1, .ref q2, .ref q3])), (q1, .inl (cy 0, 150, .inl f))] sz)) 0 0 (va_A [(h0, .inr (3, [.int (nI z), .ref q1, .ref q2, .ref q3])), (q1, .inl (cy 0, 150, .inl f))] sz) := by
  refine Met.ofW (cc := cX3_find) (maxL := 2) (ret := (some .int)) (by decide) rfl ?_
  intro p e s m args below meth c s₁ B hml hv
  obtain ⟨rfl, hsz, hP, hD0, hX⟩ := hv
  have hx := B.exec
  have hb := B.bytes
  have hr := B.returns
  have hts := atoms_spec (ws := wsX3_find) B.pre
  have hown : s.vm.findClass RX3 = some m.cls := findClass_of_methodNamed B.named
  have hlocks := B.notSynchronized
  subst hsz
  have hD := hD0.self (sz := s.heap.size)
  generalize hAe : va_A [(h0, .inr (3, [.int (nI z), .ref q1, .ref q2, .ref q3])), (q1, .inl (cy 0, 150, .inl f))] s.heap.size = A at hD hX ⊢
  have hA : ∀ q : Nat, s.heap.size ≤ q → A q := fun q h => by rw [← hAe]; exact Or.inr h
  obtain ⟨H, hH⟩ : ∃ H : Heap, H = s.heap := ⟨_, rfl⟩
  have hS : va_S A s.heap H [] := hH ▸ va_S.rf
  have hK := hX.1
  have hP : va_P D vwCl [(h0, .inr (3, [.int (nI z), .ref q1, .ref q2, .ref q3])), (q1, .inl (cy 0, 150, .inl f))] H := hH ▸ hP
  rw [← hH]
  have hw_X3 : ∀ w ∈ wsX30, w ∈ wsX3_find := by decide +kernel
  have f_9 := hts (.fieldLink RX3 9 "CubeTower$Ways" "size" "I") (by decide +kernel)
  have hl := lv_entry ([.ref h0]) (n := 2) (Nat.le_of_ble_eq_true rfl)
  rw [lg_entry_eq]
  generalize (lg_sl ([.ref h0]) ++ List.replicate (2 - (lg_sl ([.ref h0])).length) Slot.unset).toArray = ls at hl ⊢
  have hl : lv_has ls 2 [(0, .ref h0)] := hl
  refine lv_iconst (v := 0) hx hb dX3_find_0 (by decide) ?_
  refine lv_istore_n (lv' := [(1, .int 0), (0, .ref h0)]) hx hb dX3_find_1 rfl hl (by decide) rfl (fun ls hl => ?_)
  have lp_2 : ∀ (n_2 : Nat) (k : Nat) (hk : k ≤ z) (hI : ∀ v, v < k → ¬ sameR f v z) (hm : z < k + n_2) (H : Heap) (locs : List Loc) (ls : Array Slot), va_P D vwCl [(h0, .inr (3, [.int (nI z), .ref q1, .ref q2, .ref q3])), (q1, .inl (cy 0, 150, .inl f))] H → va_D A [(h0, .inr (3, [.int (nI z), .ref q1, .ref q2, .ref q3])), (q1, .inl (cy 0, 150, .inl f))] → va_S A s.heap H locs → lv_has ls 2 [(0, .ref h0), (1, .int (nI k))] → W p l e (headSpec wsX3_find ({ frames := 1, cells := 0, slots := 0, locals := 23 } : Room)).room s m ([.ref h0] : List Value).toArray below meth c H locs 0 0 (MQ below (va_Qi (q_X3_find cy h0 q1 q2 q3 z f) (cpost D A) A) ([.ref h0] : List Value).toArray s 0 0 A) (F0 m 2 ls []) := by
    intro n_2
    induction n_2 with
    | zero => intro k hk hI hm; exact absurd hm (by omega)
    | succ n_2 ih_2 =>
      intro k hk hI hm H locs ls hP hD hS hl
      refine lv_iload_n hx hb dX3_find_2 rfl (lv_at hl 1 rfl) ?_
      refine lv_aload_n hx hb dX3_find_3 rfl (lv_at hl 0 rfl) ?_
      refine va_get (D := D) (ci := 3) (v := .int (nI z)) (C := RX3) (T := TX3) (N := 4) hx hb hts hw_X3 hown hK hP 0 rfl rfl 0 (by decide) f_9 (fun _ h9 => h9) rfl dX3_find_4 ?_
      refine lv_icmp_ge (tgt := 28) hx hb dX3_find_7 (by decide) (fun c_7 => ?_) (fun c_7 => ?_)
      · have hkz : z ≤ k := nI_leN (by omega) c_7
        refine lv_iload_n hx hb dX3_find_28 rfl (lv_at hl 1 rfl) ?_
        have hP9 := hP.sub (ws' := [(h0, .inr (3, [.int (nI z), .ref q1, .ref q2, .ref q3])), (q1, .inl (cy 0, 150, .inl f))]) [0, 1] rfl
        have hD9 := hD.sub (ws' := [(h0, .inr (3, [.int (nI z), .ref q1, .ref q2, .ref q3])), (q1, .inl (cy 0, 150, .inl f))]) [0, 1] (by decide) rfl
        exact W.iret (v := nI k) hx hb hr (fun t9 ht9 hW9 => ⟨⟨nI k, [(h0, .inr (3, [.int (nI z), .ref q1, .ref q2, .ref q3])), (q1, .inl (cy 0, 150, .inl f))], rfl, ⟨k, rfl, rfl, hk, hI, (fun h => by first | exact hsame | exact absurd h (by omega))⟩, by rw [ht9]; exact hP9, hD9⟩, hS.F ht9⟩) hS.2.2 dX3_find_29
      · have hkz : k < z := nI_ltN (by omega) c_7
        refine lv_aload_n hx hb dX3_find_10 rfl (lv_at hl 0 rfl) ?_
        refine lv_iload_n hx hb dX3_find_11 rfl (lv_at hl 1 rfl) ?_
        refine lv_aload_n hx hb dX3_find_12 rfl (lv_at hl 0 rfl) ?_
        refine va_get (D := D) (ci := 3) (v := .int (nI z)) (C := RX3) (T := TX3) (N := 4) hx hb hts hw_X3 hown hK hP 0 rfl rfl 0 (by decide) f_9 (fun _ h9 => h9) rfl dX3_find_13 ?_
        refine kc_i (wc := [(h0, .inr (3, [.int (nI z), .ref q1, .ref q2, .ref q3])), (q1, .inl (cy 0, 150, .inl f))]) (wr := []) (va_runV (As := [.int (nI k), .int (nI z)]) (rest := []) ⟨hx, hb, hml, hown, hts⟩ (c_X3_sameRows l D cy H.size h0 q1 q2 q3 (nI z) f k z (by omega) hz) (cwV 2 hts gX3_find_X3_sameRows rfl rfl rfl (by decide +kernel) ⟨Nat.le_of_ble_eq_true rfl, Nat.le_of_ble_eq_true rfl⟩) (cpre_V (wc := [(h0, .inr (3, [.int (nI z), .ref q1, .ref q2, .ref q3])), (q1, .inl (cy 0, 150, .inl f))]) 0 3 rfl rfl hX hP hD hS hA [0, 1] (by decide) rfl) rfl rfl hl.1 rfl (lv_room (Nat.le_of_ble_eq_true rfl)) dX3_find_16 ⟨Nat.le_of_ble_eq_true rfl, Nat.le_of_ble_eq_true rfl⟩) hP hD hS hA [0, 1] [] rfl rfl (by decide) (by decide) (fun rs u1 H locs hw hP hD hS => ?_)
        obtain ⟨hu, hsm⟩ := hw
        subst hu
        have hP : va_P D vwCl [(h0, .inr (3, [.int (nI z), .ref q1, .ref q2, .ref q3])), (q1, .inl (cy 0, 150, .inl f))] H := hP
        have hD : va_D A [(h0, .inr (3, [.int (nI z), .ref q1, .ref q2, .ref q3])), (q1, .inl (cy 0, 150, .inl f))] := hD
        refine lv_if_ne (tgt := 28) hx hb dX3_find_19 (by decide) (fun c_19 => ?_) (fun c_19 => ?_)
        · have hsame : sameR f k z := by
            rcases hsm with ⟨_, e⟩ | ⟨e, _⟩
            · exact e
            · exact absurd e c_19
          refine lv_iload_n hx hb dX3_find_28 rfl (lv_at hl 1 rfl) ?_
          have hP9 := hP.sub (ws' := [(h0, .inr (3, [.int (nI z), .ref q1, .ref q2, .ref q3])), (q1, .inl (cy 0, 150, .inl f))]) [0, 1] rfl
          have hD9 := hD.sub (ws' := [(h0, .inr (3, [.int (nI z), .ref q1, .ref q2, .ref q3])), (q1, .inl (cy 0, 150, .inl f))]) [0, 1] (by decide) rfl
          exact W.iret (v := nI k) hx hb hr (fun t9 ht9 hW9 => ⟨⟨nI k, [(h0, .inr (3, [.int (nI z), .ref q1, .ref q2, .ref q3])), (q1, .inl (cy 0, 150, .inl f))], rfl, ⟨k, rfl, rfl, hk, hI, (fun h => by first | exact hsame | exact absurd h (by omega))⟩, by rw [ht9]; exact hP9, hD9⟩, hS.F ht9⟩) hS.2.2 dX3_find_29
        · have hns : ¬ sameR f k z := by
            rcases hsm with ⟨e, _⟩ | ⟨_, e⟩
            · rw [e] at c_19; exact absurd c_19 (by decide)
            · exact e
          refine lv_iinc (v := nI (k + 1)) (lv' := [(1, .int (nI (k + 1))), (0, .ref h0)]) hx hb dX3_find_22 hl (k := 1) rfl ((nI_succ k).symm) (by decide) rfl (fun ls hl => ?_)
          refine lv_goto (tgt := 2) hx hb dX3_find_25 (by decide) ?_
          exact ih_2 (k + 1) (by omega) (fun v h => (Nat.lt_succ_iff_lt_or_eq.mp h).elim (hI v) (fun q => by rw [q]; exact hns)) (by omega) _ _ _ (hP.sub [0, 1] rfl) (hD.sub [0, 1] (by decide) rfl) hS (lv_sub hl [1, 0] rfl)
  exact lp_2 (z + 1) 0 (Nat.zero_le z) (fun j h => absurd h (Nat.not_lt_zero j)) (by omega) _ _ _ (hP.sub [0, 1] rfl) (hD.sub [0, 1] (by decide) rfl) hS (lv_sub hl [1, 0] rfl)
def q_X3_reach (cy : Nat → ClassId) (h0 : Nat) (q1 : Nat) (q2 : Nat) (q3 : Nat) (z : Nat) (f : Nat → Int32) (g : Nat → Int32) (h : Nat → Int32) (fr : Nat) (kd : Nat) (t : Nat) : va_W → Prop := fun (u : va_W) => ∃ (z2 : Nat), ∃ (f2 : Nat → Int32), ∃ (g2 : Nat → Int32), ∃ (h2 : Nat → Int32), u = [(h0, .inr (3, [.int (nI z2), .ref q1, .ref q2, .ref q3])), (q1, .inl (cy 0, 150, .inl f2)), (q2, .inl (cy 0, 24, .inl g2)), (q3, .inl (cy 0, 24, .inl h2))] ∧ z ≤ z2 ∧ z2 ≤ 24 ∧ (∀ P : Int32 → Prop, (∀ j, P (f j)) → ∀ j, P (f2 j))
set_option maxHeartbeats 4000000 in
set_option maxRecDepth 100000 in
theorem c_X3_reach (l : Launch) (D : va_G) (cy : Nat → ClassId) (sz : Nat) (h0 : Nat) (q1 : Nat) (q2 : Nat) (q3 : Nat) (z : Nat) (f : Nat → Int32) (g : Nat → Int32) (h : Nat → Int32) (fr : Nat) (kd : Nat) (t : Nat) (hz : z ≤ 24) (hfr : fr < z) (hkd : kd < 5) (ht : t < 4) : Met l yX3_reach wsX3_reach ({ frames := 2, cells := 0, slots := 0, locals := 44 } : Room) (va_Pc [.ref h0, .int (nI fr), .int (nI kd), .int (nI t)] (cpre D cy [(h0, .inr (3, [.int (nI z), .ref q1, .ref q2, .ref q3])), (q1, .inl (cy 0, 150, .inl f)), (q2, .inl (cy 0, 24, .inl g)), (q3, .inl (cy 0, 24, .inl h))] sz)) (va_Qv (q_X3_reach cy h0 q1 q2 q3 z f g h fr kd t) (cpost D (va_A [(h0, .inr (3, [.int (nI z), .ref q1, .ref q2, .ref q3])), (q1, .inl (cy 0, 150, .inl f)), (q2, .inl (cy 0, 24, .inl g)), (q3, .inl (cy 0, 24, .inl h))] sz)) (va_A [(h0, .inr (3, [.int (nI z), .ref q1, .ref q2, .ref q3])), (q1, .inl (cy 0, 150, .inl f)), (q2, .inl (cy 0, 24, .inl g)), (q3, .inl (cy 0, 24, .inl h))] sz)) 0 0 (va_A [(h0, .inr (3, [.int (nI z), .ref q1, .ref q2, .ref q3])), (q1, .inl (cy 0, 150, .inl f)), (q2, .inl (cy 0, 24, .inl g)), (q3, .inl (cy 0, 24, .inl h))] sz) := by
  refine Met.ofW (cc := cX3_reach) (maxL := 5) (ret := none) (by decide) rfl ?_
  intro p e s m args below meth c s₁ B hml hv
  obtain ⟨rfl, hsz, hP, hD0, hX⟩ := hv
  have hx := B.exec
  have hb := B.bytes
  have hr := B.returns
  have hts := atoms_spec (ws := wsX3_reach) B.pre
  have hown : s.vm.findClass RX3 = some m.cls := findClass_of_methodNamed B.named
  have hlocks := B.notSynchronized
  subst hsz
  have hD := hD0.self (sz := s.heap.size)
  generalize hAe : va_A [(h0, .inr (3, [.int (nI z), .ref q1, .ref q2, .ref q3])), (q1, .inl (cy 0, 150, .inl f)), (q2, .inl (cy 0, 24, .inl g)), (q3, .inl (cy 0, 24, .inl h))] s.heap.size = A at hD hX ⊢
  have hA : ∀ q : Nat, s.heap.size ≤ q → A q := fun q h => by rw [← hAe]; exact Or.inr h
  obtain ⟨H, hH⟩ : ∃ H : Heap, H = s.heap := ⟨_, rfl⟩
  have hS : va_S A s.heap H [] := hH ▸ va_S.rf
  have hK := hX.1
  have hP : va_P D vwCl [(h0, .inr (3, [.int (nI z), .ref q1, .ref q2, .ref q3])), (q1, .inl (cy 0, 150, .inl f)), (q2, .inl (cy 0, 24, .inl g)), (q3, .inl (cy 0, 24, .inl h))] H := hH ▸ hP
  rw [← hH]
  have hw_X3 : ∀ w ∈ wsX30, w ∈ wsX3_reach := by decide +kernel
  have f_15 := hts (.fieldLink RX3 15 "CubeTower$Ways" "sideAt" "[I") (by decide +kernel)
  have f_9 := hts (.fieldLink RX3 9 "CubeTower$Ways" "size" "I") (by decide +kernel)
  have m_33 := hts (.methodLink RX3 33 arraycopyName) (by decide +kernel)
  have cp_n := hts (.native arraycopyName) (by decide +kernel)
  have cp_s := hts (.static arraycopyName) (by decide +kernel)
  have cp_i := hts (.initialized "java/lang/System") (by decide +kernel)
  have ini_X4 := hts (.initialized RX4) (by decide +kernel)
  have st_X4_turnRow := hts (.static yX4_turnRow) (by decide +kernel)
  have f_19 := hts (.fieldLink RX3 19 "CubeTower$Ways" "turnsTo" "[I") (by decide +kernel)
  have f_22 := hts (.fieldLink RX3 22 "CubeTower$Ways" "firstTurns" "[I") (by decide +kernel)
  have hl := lv_entry ([.ref h0, .int (nI fr), .int (nI kd), .int (nI t)]) (n := 5) (Nat.le_of_ble_eq_true rfl)
  rw [lg_entry_eq]
  generalize (lg_sl ([.ref h0, .int (nI fr), .int (nI kd), .int (nI t)]) ++ List.replicate (5 - (lg_sl ([.ref h0, .int (nI fr), .int (nI kd), .int (nI t)])).length) Slot.unset).toArray = ls at hl ⊢
  have hl : lv_has ls 5 [(0, .ref h0), (1, .int (nI fr)), (2, .int (nI kd)), (3, .int (nI t))] := hl
  refine lv_aload_n hx hb dX3_reach_0 rfl (lv_at hl 0 rfl) ?_
  refine va_get (D := D) (ci := 3) (v := .ref q1) (C := RX3) (T := TX3) (N := 4) hx hb hts hw_X3 hown hK hP 0 rfl rfl 1 (by decide) f_15 (fun _ h9 => h9) rfl dX3_reach_1 ?_
  refine lv_iload_n hx hb dX3_reach_4 rfl (lv_at hl 1 rfl) ?_
  refine lv_bipush (v := 6) hx hb dX3_reach_5 (by decide) ?_
  refine lv_imul hx hb dX3_reach_7 ?_
  refine lv_topi (fun y1 ey1 => ?_)
  obtain rfl : y1 = nI (fr * 6) := ey1.trans (nIx6 fr)
  refine lv_aload_n hx hb dX3_reach_8 rfl (lv_at hl 0 rfl) ?_
  refine va_get (D := D) (ci := 3) (v := .ref q1) (C := RX3) (T := TX3) (N := 4) hx hb hts hw_X3 hown hK hP 0 rfl rfl 1 (by decide) f_15 (fun _ h9 => h9) rfl dX3_reach_9 ?_
  refine lv_aload_n hx hb dX3_reach_12 rfl (lv_at hl 0 rfl) ?_
  refine va_get (D := D) (ci := 3) (v := .int (nI z)) (C := RX3) (T := TX3) (N := 4) hx hb hts hw_X3 hown hK hP 0 rfl rfl 0 (by decide) f_9 (fun _ h9 => h9) rfl dX3_reach_13 ?_
  refine lv_bipush (v := 6) hx hb dX3_reach_16 (by decide) ?_
  refine lv_imul hx hb dX3_reach_18 ?_
  refine lv_topi (fun y2 ey2 => ?_)
  obtain rfl : y2 = nI (z * 6) := ey2.trans (nIx6 z)
  refine lv_bipush (v := 6) hx hb dX3_reach_19 (by decide) ?_
  refine va_copyi hx hb (by rw [hml]; exact hl.1.symm) hown m_33 cp_n cp_s cp_i hK hP hD hS 1 1 0 0 rfl rfl rfl rfl rfl (nI_pos (by omega)) (nI_pos (by omega)) (by decide) (by rw [nI_clamp (n := fr * 6) (by omega)]; show fr * 6 + 6 ≤ 150; omega) (by rw [nI_clamp (n := z * 6) (by omega)]; show z * 6 + 6 ≤ 150; omega) (fun _ _ => rfl) (Nat.le_of_ble_eq_true rfl) (Nat.le_of_ble_eq_true rfl) dX3_reach_21 (fun H locs hP hD hS => ?_)
  have hP : va_P D vwCl [(h0, .inr (3, [.int (nI z), .ref q1, .ref q2, .ref q3])), (q1, .inl (cy 0, 150, .inl (va_cpy f f (nI (fr * 6)).toNatClampNeg (nI (z * 6)).toNatClampNeg (6 : Int32).toNatClampNeg))), (q2, .inl (cy 0, 24, .inl g)), (q3, .inl (cy 0, 24, .inl h))] H := hP
  have hD : va_D A [(h0, .inr (3, [.int (nI z), .ref q1, .ref q2, .ref q3])), (q1, .inl (cy 0, 150, .inl (va_cpy f f (nI (fr * 6)).toNatClampNeg (nI (z * 6)).toNatClampNeg (6 : Int32).toNatClampNeg))), (q2, .inl (cy 0, 24, .inl g)), (q3, .inl (cy 0, 24, .inl h))] := hD
  obtain ⟨fa, e_fa⟩ : ∃ z9 : Nat → Int32, z9 = va_cpy f f (nI (fr * 6)).toNatClampNeg (nI (z * 6)).toNatClampNeg (6 : Int32).toNatClampNeg := ⟨_, rfl⟩
  rw [← e_fa] at hP hD
  have hfa : ∀ P : Int32 → Prop, (∀ j, P (f j)) → ∀ j, P (fa j) := fun P hp j => by rw [e_fa]; exact cpy_P hp hp j
  have hP : va_P D vwCl [(h0, .inr (3, [.int (nI z), .ref q1, .ref q2, .ref q3])), (q1, .inl (cy 0, 150, .inl fa)), (q2, .inl (cy 0, 24, .inl g)), (q3, .inl (cy 0, 24, .inl h))] H := hP
  have hD : va_D A [(h0, .inr (3, [.int (nI z), .ref q1, .ref q2, .ref q3])), (q1, .inl (cy 0, 150, .inl fa)), (q2, .inl (cy 0, 24, .inl g)), (q3, .inl (cy 0, 24, .inl h))] := hD
  refine lv_aload_n hx hb dX3_reach_24 rfl (lv_at hl 0 rfl) ?_
  refine va_get (D := D) (ci := 3) (v := .ref q1) (C := RX3) (T := TX3) (N := 4) hx hb hts hw_X3 hown hK hP 0 rfl rfl 1 (by decide) f_15 (fun _ h9 => h9) rfl dX3_reach_25 ?_
  refine lv_aload_n hx hb dX3_reach_28 rfl (lv_at hl 0 rfl) ?_
  refine va_get (D := D) (ci := 3) (v := .int (nI z)) (C := RX3) (T := TX3) (N := 4) hx hb hts hw_X3 hown hK hP 0 rfl rfl 0 (by decide) f_9 (fun _ h9 => h9) rfl dX3_reach_29 ?_
  refine lv_bipush (v := 6) hx hb dX3_reach_32 (by decide) ?_
  refine lv_imul hx hb dX3_reach_34 ?_
  refine lv_topi (fun y3 ey3 => ?_)
  obtain rfl : y3 = nI (z * 6) := ey3.trans (nIx6 z)
  refine lv_iload_n hx hb dX3_reach_35 rfl (lv_at hl 2 rfl) ?_
  refine lv_iload_n hx hb dX3_reach_36 rfl (lv_at hl 3 rfl) ?_
  refine kc_v (wc := [(q1, .inl (cy 0, 150, .inl fa))]) (wr := [(h0, .inr (3, [.int (nI z), .ref q1, .ref q2, .ref q3])), (q2, .inl (cy 0, 24, .inl g)), (q3, .inl (cy 0, 24, .inl h))]) (va_runSN (As := [.ref q1, .int (nI (z * 6)), .int (nI kd), .int (nI t)]) (rest := []) ⟨hx, hb, hml, hown, hts⟩ (c_X4_turnRow l D cy H.size q1 150 fa (z * 6) (nI kd) t (by decide) (by omega) ht) ⟨va_cnB 4 hts gX3_reach_X4_turnRow_n39 rfl rfl rfl hX.2.2.1.2.2.2.2.1 ini_X4 (by decide +kernel) ⟨Nat.le_of_ble_eq_true rfl, Nat.le_of_ble_eq_true rfl⟩, st_X4_turnRow, trivial⟩ (cpre_S (wc := [(q1, .inl (cy 0, 150, .inl fa))]) hX hP hD hS hA [1] (by decide) rfl) rfl rfl hl.1 rfl (lv_room (Nat.le_of_ble_eq_true rfl)) dX3_reach_37 ⟨Nat.le_of_ble_eq_true rfl, Nat.le_of_ble_eq_true rfl⟩) hP hD hS hA [1] [0, 2, 3] rfl rfl (by decide) (by decide) (fun u5 H locs hw hP hD hS => ?_)
  have hu := hw
  subst hu
  have hP : va_P D vwCl [(h0, .inr (3, [.int (nI z), .ref q1, .ref q2, .ref q3])), (q2, .inl (cy 0, 24, .inl g)), (q3, .inl (cy 0, 24, .inl h)), (q1, .inl (cy 0, 150, .inl (tr_f (nI kd) t (z * 6) fa)))] H := hP
  have hD : va_D A [(h0, .inr (3, [.int (nI z), .ref q1, .ref q2, .ref q3])), (q2, .inl (cy 0, 24, .inl g)), (q3, .inl (cy 0, 24, .inl h)), (q1, .inl (cy 0, 150, .inl (tr_f (nI kd) t (z * 6) fa)))] := hD
  obtain ⟨fb, e_fb⟩ : ∃ z9 : Nat → Int32, z9 = tr_f (nI kd) t (z * 6) fa := ⟨_, rfl⟩
  rw [← e_fb] at hP hD
  have hfb : ∀ P : Int32 → Prop, (∀ j, P (f j)) → ∀ j, P (fb j) := fun P hp j => by rw [e_fb]; exact tr_P (hfa P hp) j
  have hP : va_P D vwCl [(h0, .inr (3, [.int (nI z), .ref q1, .ref q2, .ref q3])), (q2, .inl (cy 0, 24, .inl g)), (q3, .inl (cy 0, 24, .inl h)), (q1, .inl (cy 0, 150, .inl fb))] H := hP
  have hD : va_D A [(h0, .inr (3, [.int (nI z), .ref q1, .ref q2, .ref q3])), (q2, .inl (cy 0, 24, .inl g)), (q3, .inl (cy 0, 24, .inl h)), (q1, .inl (cy 0, 150, .inl fb))] := hD
  refine lv_aload_n hx hb dX3_reach_40 rfl (lv_at hl 0 rfl) ?_
  refine kc_i (wc := [(h0, .inr (3, [.int (nI z), .ref q1, .ref q2, .ref q3])), (q1, .inl (cy 0, 150, .inl fb))]) (wr := [(q2, .inl (cy 0, 24, .inl g)), (q3, .inl (cy 0, 24, .inl h))]) (va_runV (As := []) (rest := []) ⟨hx, hb, hml, hown, hts⟩ (c_X3_find l D cy H.size h0 q1 q2 q3 z fb hz) (cwV 0 hts gX3_reach_X3_find rfl rfl rfl (by decide +kernel) ⟨Nat.le_of_ble_eq_true rfl, Nat.le_of_ble_eq_true rfl⟩) (cpre_V (wc := [(h0, .inr (3, [.int (nI z), .ref q1, .ref q2, .ref q3])), (q1, .inl (cy 0, 150, .inl fb))]) 0 3 rfl rfl hX hP hD hS hA [0, 3] (by decide) rfl) rfl rfl hl.1 rfl (lv_room (Nat.le_of_ble_eq_true rfl)) dX3_reach_41 ⟨Nat.le_of_ble_eq_true rfl, Nat.le_of_ble_eq_true rfl⟩) hP hD hS hA [0, 3] [1, 2] rfl rfl (by decide) (by decide) (fun rw u6 H locs hw hP hD hS => ?_)
  obtain ⟨w1, hu, hrw, hwz9, hv1, hv2⟩ := hw
  subst hu
  have hP : va_P D vwCl [(q2, .inl (cy 0, 24, .inl g)), (q3, .inl (cy 0, 24, .inl h)), (h0, .inr (3, [.int (nI z), .ref q1, .ref q2, .ref q3])), (q1, .inl (cy 0, 150, .inl fb))] H := hP
  have hD : va_D A [(q2, .inl (cy 0, 24, .inl g)), (q3, .inl (cy 0, 24, .inl h)), (h0, .inr (3, [.int (nI z), .ref q1, .ref q2, .ref q3])), (q1, .inl (cy 0, 150, .inl fb))] := hD
  subst hrw
  refine lv_istore (lv' := [(4, .int (nI w1)), (0, .ref h0), (1, .int (nI fr)), (2, .int (nI kd)), (3, .int (nI t))]) hx hb dX3_reach_44 hl (by decide) rfl (fun ls hl => ?_)
  have lp_89 : ∀ (z2 : Nat) (g1 : Nat → Int32) (w : Nat) (hz1 : z ≤ z2) (hz2 : z2 ≤ 24) (hw1 : w ≤ 24) (H : Heap) (locs : List Loc) (ls : Array Slot), va_P D vwCl [(h0, .inr (3, [.int (nI z2), .ref q1, .ref q2, .ref q3])), (q1, .inl (cy 0, 150, .inl fb)), (q2, .inl (cy 0, 24, .inl g1)), (q3, .inl (cy 0, 24, .inl h))] H → va_D A [(h0, .inr (3, [.int (nI z2), .ref q1, .ref q2, .ref q3])), (q1, .inl (cy 0, 150, .inl fb)), (q2, .inl (cy 0, 24, .inl g1)), (q3, .inl (cy 0, 24, .inl h))] → va_S A s.heap H locs → lv_has ls 5 [(0, .ref h0), (1, .int (nI fr)), (3, .int (nI t)), (4, .int (nI w))] → W p l e (headSpec wsX3_reach ({ frames := 2, cells := 0, slots := 0, locals := 44 } : Room)).room s m ([.ref h0, .int (nI fr), .int (nI kd), .int (nI t)] : List Value).toArray below meth c H locs 0 0 (MQ below (va_Qv (q_X3_reach cy h0 q1 q2 q3 z f g h fr kd t) (cpost D A) A) ([.ref h0, .int (nI fr), .int (nI kd), .int (nI t)] : List Value).toArray s 0 0 A) (F0 m 89 ls []) := by
    intro z2 g1 w hz1 hz2 hw1 H locs ls hP hD hS hl
    refine lv_iload hx hb dX3_reach_89 (lv_at hl 3 rfl) ?_
    refine lv_aload_n hx hb dX3_reach_91 rfl (lv_at hl 0 rfl) ?_
    refine va_get (D := D) (ci := 3) (v := .int (nI z2)) (C := RX3) (T := TX3) (N := 4) hx hb hts hw_X3 hown hK hP 0 rfl rfl 0 (by decide) f_9 (fun _ h9 => h9) rfl dX3_reach_92 ?_
    refine lv_icmp_ge (tgt := 142) hx hb dX3_reach_95 (by decide) (fun c_95 => ?_) (fun c_95 => ?_)
    · have hP9 := hP.sub (ws' := [(h0, .inr (3, [.int (nI z2), .ref q1, .ref q2, .ref q3])), (q1, .inl (cy 0, 150, .inl fb)), (q2, .inl (cy 0, 24, .inl g1)), (q3, .inl (cy 0, 24, .inl h))]) [0, 1, 2, 3] rfl
      have hD9 := hD.sub (ws' := [(h0, .inr (3, [.int (nI z2), .ref q1, .ref q2, .ref q3])), (q1, .inl (cy 0, 150, .inl fb)), (q2, .inl (cy 0, 24, .inl g1)), (q3, .inl (cy 0, 24, .inl h))]) [0, 1, 2, 3] (by decide) rfl
      exact W.vret hx hb hr (fun t9 ht9 hW9 => ⟨⟨[(h0, .inr (3, [.int (nI z2), .ref q1, .ref q2, .ref q3])), (q1, .inl (cy 0, 150, .inl fb)), (q2, .inl (cy 0, 24, .inl g1)), (q3, .inl (cy 0, 24, .inl h))], rfl, ⟨z2, fb, g1, h, rfl, hz1, hz2, hfb⟩, by rw [ht9]; exact hP9, hD9⟩, hS.F ht9⟩) hS.2.2 dX3_reach_142
    · have hw2 : w < z2 := nI_ltN (by omega) c_95
      refine lv_aload_n hx hb dX3_reach_98 rfl (lv_at hl 0 rfl) ?_
      refine va_get (D := D) (ci := 3) (v := .ref q2) (C := RX3) (T := TX3) (N := 4) hx hb hts hw_X3 hown hK hP 0 rfl rfl 2 (by decide) f_19 (fun _ h9 => h9) rfl dX3_reach_99 ?_
      refine lv_iload hx hb dX3_reach_102 (lv_at hl 3 rfl) ?_
      refine va_iald hx hb hK hP 2 0 rfl rfl (nI_in (by omega) (by decide)) dX3_reach_104 ?_
      refine lv_topi (fun y7 ey7 => ?_)
      obtain rfl : y7 = g1 w := ey7.trans (congrArg g1 (nI_clamp (by omega)))
      refine lv_aload_n hx hb dX3_reach_105 rfl (lv_at hl 0 rfl) ?_
      refine va_get (D := D) (ci := 3) (v := .ref q2) (C := RX3) (T := TX3) (N := 4) hx hb hts hw_X3 hown hK hP 0 rfl rfl 2 (by decide) f_19 (fun _ h9 => h9) rfl dX3_reach_106 ?_
      refine lv_iload_n hx hb dX3_reach_109 rfl (lv_at hl 1 rfl) ?_
      refine va_iald hx hb hK hP 2 0 rfl rfl (nI_in (by omega) (by decide)) dX3_reach_110 ?_
      refine lv_topi (fun y8 ey8 => ?_)
      obtain rfl : y8 = g1 fr := ey8.trans (congrArg g1 (nI_clamp (by omega)))
      refine lv_iconst (v := 1) hx hb dX3_reach_111 (by decide) ?_
      refine lv_iadd hx hb dX3_reach_112 ?_
      refine lv_icmp_ne (tgt := 142) hx hb dX3_reach_113 (by decide) (fun c_113 => ?_) (fun c_113 => ?_)
      · have hP9 := hP.sub (ws' := [(h0, .inr (3, [.int (nI z2), .ref q1, .ref q2, .ref q3])), (q1, .inl (cy 0, 150, .inl fb)), (q2, .inl (cy 0, 24, .inl g1)), (q3, .inl (cy 0, 24, .inl h))]) [0, 1, 2, 3] rfl
        have hD9 := hD.sub (ws' := [(h0, .inr (3, [.int (nI z2), .ref q1, .ref q2, .ref q3])), (q1, .inl (cy 0, 150, .inl fb)), (q2, .inl (cy 0, 24, .inl g1)), (q3, .inl (cy 0, 24, .inl h))]) [0, 1, 2, 3] (by decide) rfl
        exact W.vret hx hb hr (fun t9 ht9 hW9 => ⟨⟨[(h0, .inr (3, [.int (nI z2), .ref q1, .ref q2, .ref q3])), (q1, .inl (cy 0, 150, .inl fb)), (q2, .inl (cy 0, 24, .inl g1)), (q3, .inl (cy 0, 24, .inl h))], rfl, ⟨z2, fb, g1, h, rfl, hz1, hz2, hfb⟩, by rw [ht9]; exact hP9, hD9⟩, hS.F ht9⟩) hS.2.2 dX3_reach_142
      · refine lv_aload_n hx hb dX3_reach_116 rfl (lv_at hl 0 rfl) ?_
        refine va_get (D := D) (ci := 3) (v := .ref q3) (C := RX3) (T := TX3) (N := 4) hx hb hts hw_X3 hown hK hP 0 rfl rfl 3 (by decide) f_22 (fun _ h9 => h9) rfl dX3_reach_117 ?_
        refine lv_iload hx hb dX3_reach_120 (lv_at hl 3 rfl) ?_
        refine lv_dup2_11 hx hb dX3_reach_122 rfl rfl ?_
        refine va_iald hx hb hK hP 3 0 rfl rfl (nI_in (by omega) (by decide)) dX3_reach_123 ?_
        refine lv_topi (fun y9 ey9 => ?_)
        obtain rfl : y9 = h w := ey9.trans (congrArg h (nI_clamp (by omega)))
        refine lv_iload_n hx hb dX3_reach_124 rfl (lv_at hl 1 rfl) ?_
        refine lv_if_ne (tgt := 134) hx hb dX3_reach_125 (by decide) (fun c_125 => ?_) (fun c_125 => ?_)
        · refine lv_aload_n hx hb dX3_reach_134 rfl (lv_at hl 0 rfl) ?_
          refine va_get (D := D) (ci := 3) (v := .ref q3) (C := RX3) (T := TX3) (N := 4) hx hb hts hw_X3 hown hK hP 0 rfl rfl 3 (by decide) f_22 (fun _ h9 => h9) rfl dX3_reach_135 ?_
          refine lv_iload_n hx hb dX3_reach_138 rfl (lv_at hl 1 rfl) ?_
          refine va_iald hx hb hK hP 3 0 rfl rfl (nI_in (by omega) (by decide)) dX3_reach_139 ?_
          refine lv_topi (fun y10 ey10 => ?_)
          obtain rfl : y10 = h fr := ey10.trans (congrArg h (nI_clamp (by omega)))
          refine lv_ior hx hb dX3_reach_140 ?_
          refine va_iast hx hb hK hP hD hS 3 0 rfl rfl (nI_in (by omega) (by decide)) dX3_reach_141 (fun H locs hP hD hS => ?_)
          have hP : va_P D vwCl [(h0, .inr (3, [.int (nI z2), .ref q1, .ref q2, .ref q3])), (q1, .inl (cy 0, 150, .inl fb)), (q2, .inl (cy 0, 24, .inl g1)), (q3, .inl (cy 0, 24, .inl (upd h (nI w).toNatClampNeg ((h w) ||| (h fr)))))] H := hP
          have hD : va_D A [(h0, .inr (3, [.int (nI z2), .ref q1, .ref q2, .ref q3])), (q1, .inl (cy 0, 150, .inl fb)), (q2, .inl (cy 0, 24, .inl g1)), (q3, .inl (cy 0, 24, .inl (upd h (nI w).toNatClampNeg ((h w) ||| (h fr)))))] := hD
          have hP9 := hP.sub (ws' := [(h0, .inr (3, [.int (nI z2), .ref q1, .ref q2, .ref q3])), (q1, .inl (cy 0, 150, .inl fb)), (q2, .inl (cy 0, 24, .inl g1)), (q3, .inl (cy 0, 24, .inl (upd h (nI w).toNatClampNeg ((h w) ||| (h fr)))))]) [0, 1, 2, 3] rfl
          have hD9 := hD.sub (ws' := [(h0, .inr (3, [.int (nI z2), .ref q1, .ref q2, .ref q3])), (q1, .inl (cy 0, 150, .inl fb)), (q2, .inl (cy 0, 24, .inl g1)), (q3, .inl (cy 0, 24, .inl (upd h (nI w).toNatClampNeg ((h w) ||| (h fr)))))]) [0, 1, 2, 3] (by decide) rfl
          exact W.vret hx hb hr (fun t9 ht9 hW9 => ⟨⟨[(h0, .inr (3, [.int (nI z2), .ref q1, .ref q2, .ref q3])), (q1, .inl (cy 0, 150, .inl fb)), (q2, .inl (cy 0, 24, .inl g1)), (q3, .inl (cy 0, 24, .inl (upd h (nI w).toNatClampNeg ((h w) ||| (h fr)))))], rfl, ⟨z2, fb, g1, (upd h (nI w).toNatClampNeg ((h w) ||| (h fr))), rfl, hz1, hz2, hfb⟩, by rw [ht9]; exact hP9, hD9⟩, hS.F ht9⟩) hS.2.2 dX3_reach_142
        · refine lv_iconst (v := 1) hx hb dX3_reach_128 (by decide) ?_
          refine lv_iload_n hx hb dX3_reach_129 rfl (lv_at hl 2 rfl) ?_
          refine lv_ishl hx hb dX3_reach_130 ?_
          refine lv_goto (tgt := 140) hx hb dX3_reach_131 (by decide) ?_
          refine lv_ior hx hb dX3_reach_140 ?_
          refine va_iast hx hb hK hP hD hS 3 0 rfl rfl (nI_in (by omega) (by decide)) dX3_reach_141 (fun H locs hP hD hS => ?_)
          have hP : va_P D vwCl [(h0, .inr (3, [.int (nI z2), .ref q1, .ref q2, .ref q3])), (q1, .inl (cy 0, 150, .inl fb)), (q2, .inl (cy 0, 24, .inl g1)), (q3, .inl (cy 0, 24, .inl (upd h (nI w).toNatClampNeg ((h w) ||| (1 <<< ((nI t) &&& 31))))))] H := hP
          have hD : va_D A [(h0, .inr (3, [.int (nI z2), .ref q1, .ref q2, .ref q3])), (q1, .inl (cy 0, 150, .inl fb)), (q2, .inl (cy 0, 24, .inl g1)), (q3, .inl (cy 0, 24, .inl (upd h (nI w).toNatClampNeg ((h w) ||| (1 <<< ((nI t) &&& 31))))))] := hD
          have hP9 := hP.sub (ws' := [(h0, .inr (3, [.int (nI z2), .ref q1, .ref q2, .ref q3])), (q1, .inl (cy 0, 150, .inl fb)), (q2, .inl (cy 0, 24, .inl g1)), (q3, .inl (cy 0, 24, .inl (upd h (nI w).toNatClampNeg ((h w) ||| (1 <<< ((nI t) &&& 31))))))]) [0, 1, 2, 3] rfl
          have hD9 := hD.sub (ws' := [(h0, .inr (3, [.int (nI z2), .ref q1, .ref q2, .ref q3])), (q1, .inl (cy 0, 150, .inl fb)), (q2, .inl (cy 0, 24, .inl g1)), (q3, .inl (cy 0, 24, .inl (upd h (nI w).toNatClampNeg ((h w) ||| (1 <<< ((nI t) &&& 31))))))]) [0, 1, 2, 3] (by decide) rfl
          exact W.vret hx hb hr (fun t9 ht9 hW9 => ⟨⟨[(h0, .inr (3, [.int (nI z2), .ref q1, .ref q2, .ref q3])), (q1, .inl (cy 0, 150, .inl fb)), (q2, .inl (cy 0, 24, .inl g1)), (q3, .inl (cy 0, 24, .inl (upd h (nI w).toNatClampNeg ((h w) ||| (1 <<< ((nI t) &&& 31))))))], rfl, ⟨z2, fb, g1, (upd h (nI w).toNatClampNeg ((h w) ||| (1 <<< ((nI t) &&& 31)))), rfl, hz1, hz2, hfb⟩, by rw [ht9]; exact hP9, hD9⟩, hS.F ht9⟩) hS.2.2 dX3_reach_142
  refine lv_iload hx hb dX3_reach_46 (lv_at hl 0 rfl) ?_
  refine lv_aload_n hx hb dX3_reach_48 rfl (lv_at hl 1 rfl) ?_
  refine va_get (D := D) (ci := 3) (v := .int (nI z)) (C := RX3) (T := TX3) (N := 4) hx hb hts hw_X3 hown hK hP 2 rfl rfl 0 (by decide) f_9 (fun _ h9 => h9) rfl dX3_reach_49 ?_
  refine lv_icmp_ne (tgt := 89) hx hb dX3_reach_52 (by decide) (fun c_52 => ?_) (fun c_52 => ?_)
  · exact lp_89 z g w1 (by omega) (by omega) (by omega) _ _ _ (hP.sub [2, 3, 0, 1] rfl) (hD.sub [2, 3, 0, 1] (by decide) rfl) hS (lv_sub hl [1, 2, 4, 0] rfl)
  · have hwz : w1 = z := (nI_eq (a := w1) (b := z) (by omega) (by omega)).mp c_52
    refine lv_aload_n hx hb dX3_reach_55 rfl (lv_at hl 1 rfl) ?_
    refine va_get (D := D) (ci := 3) (v := .int (nI z)) (C := RX3) (T := TX3) (N := 4) hx hb hts hw_X3 hown hK hP 2 rfl rfl 0 (by decide) f_9 (fun _ h9 => h9) rfl dX3_reach_56 ?_
    refine lv_bipush (v := 24) hx hb dX3_reach_59 (by decide) ?_
    refine lv_icmp_ge (tgt := 89) hx hb dX3_reach_61 (by decide) (fun c_61 => ?_) (fun c_61 => ?_)
    · exact lp_89 z g w1 (by omega) (by omega) (by omega) _ _ _ (hP.sub [2, 3, 0, 1] rfl) (hD.sub [2, 3, 0, 1] (by decide) rfl) hS (lv_sub hl [1, 2, 4, 0] rfl)
    · have hz24 : z < 24 := nI_ltN (b := 24) (by omega) c_61
      refine lv_aload_n hx hb dX3_reach_64 rfl (lv_at hl 1 rfl) ?_
      refine va_get (D := D) (ci := 3) (v := .ref q2) (C := RX3) (T := TX3) (N := 4) hx hb hts hw_X3 hown hK hP 2 rfl rfl 2 (by decide) f_19 (fun _ h9 => h9) rfl dX3_reach_65 ?_
      refine lv_iload hx hb dX3_reach_68 (lv_at hl 0 rfl) ?_
      refine lv_aload_n hx hb dX3_reach_70 rfl (lv_at hl 1 rfl) ?_
      refine va_get (D := D) (ci := 3) (v := .ref q2) (C := RX3) (T := TX3) (N := 4) hx hb hts hw_X3 hown hK hP 2 rfl rfl 2 (by decide) f_19 (fun _ h9 => h9) rfl dX3_reach_71 ?_
      refine lv_iload_n hx hb dX3_reach_74 rfl (lv_at hl 2 rfl) ?_
      refine va_iald hx hb hK hP 0 0 rfl rfl (nI_in (by omega) (by decide)) dX3_reach_75 ?_
      refine lv_topi (fun y11 ey11 => ?_)
      obtain rfl : y11 = g fr := ey11.trans (congrArg g (nI_clamp (by omega)))
      refine lv_iconst (v := 1) hx hb dX3_reach_76 (by decide) ?_
      refine lv_iadd hx hb dX3_reach_77 ?_
      refine va_iast hx hb hK hP hD hS 0 0 rfl rfl (nI_in (by omega) (by decide)) dX3_reach_78 (fun H locs hP hD hS => ?_)
      have hP : va_P D vwCl [(q2, .inl (cy 0, 24, .inl (upd g (nI w1).toNatClampNeg ((g fr) + 1)))), (q3, .inl (cy 0, 24, .inl h)), (h0, .inr (3, [.int (nI z), .ref q1, .ref q2, .ref q3])), (q1, .inl (cy 0, 150, .inl fb))] H := hP
      have hD : va_D A [(q2, .inl (cy 0, 24, .inl (upd g (nI w1).toNatClampNeg ((g fr) + 1)))), (q3, .inl (cy 0, 24, .inl h)), (h0, .inr (3, [.int (nI z), .ref q1, .ref q2, .ref q3])), (q1, .inl (cy 0, 150, .inl fb))] := hD
      refine lv_aload_n hx hb dX3_reach_79 rfl (lv_at hl 1 rfl) ?_
      refine lv_dup hx hb dX3_reach_80 rfl ?_
      refine va_get (D := D) (ci := 3) (v := .int (nI z)) (C := RX3) (T := TX3) (N := 4) hx hb hts hw_X3 hown hK hP 2 rfl rfl 0 (by decide) f_9 (fun _ h9 => h9) rfl dX3_reach_81 ?_
      refine lv_iconst (v := 1) hx hb dX3_reach_84 (by decide) ?_
      refine lv_iadd hx hb dX3_reach_85 ?_
      refine lv_topi (fun y12 ey12 => ?_)
      obtain rfl : y12 = nI (z + 1) := ey12.trans ((nI_succ z).symm)
      refine va_put (D := D) (ci := 3) (v := .int (nI (z + 1))) (ty := .int) (C := RX3) (T := TX3) (N := 4) hx hb hts hw_X3 tyX3 tyX3_ok nmX3 hown hK hP hD hS 2 rfl rfl 0 (by decide) f_9 (fun _ h9 => h9) rfl (by decide +kernel) rfl rfl (Nat.le_of_ble_eq_true rfl) dX3_reach_86 (fun H locs hP hD hS => ?_)
      have hP : va_P D vwCl [(q2, .inl (cy 0, 24, .inl (upd g (nI w1).toNatClampNeg ((g fr) + 1)))), (q3, .inl (cy 0, 24, .inl h)), (h0, .inr (3, [.int (nI (z + 1)), .ref q1, .ref q2, .ref q3])), (q1, .inl (cy 0, 150, .inl fb))] H := hP
      have hD : va_D A [(q2, .inl (cy 0, 24, .inl (upd g (nI w1).toNatClampNeg ((g fr) + 1)))), (q3, .inl (cy 0, 24, .inl h)), (h0, .inr (3, [.int (nI (z + 1)), .ref q1, .ref q2, .ref q3])), (q1, .inl (cy 0, 150, .inl fb))] := hD
      exact lp_89 (z + 1) (upd g (nI w1).toNatClampNeg ((g fr) + 1)) w1 (by omega) (by omega) (by omega) _ _ _ (hP.sub [2, 3, 0, 1] rfl) (hD.sub [2, 3, 0, 1] (by decide) rfl) hS (lv_sub hl [1, 2, 4, 0] rfl)
theorem okv0 : ∀ j, okv (upd (upd (upd (upd (upd (upd (fun _ => 0) 0 0) 1 1) 2 2) 3 3) 4 4) 5 5 j) := upd_P (upd_P (upd_P (upd_P (upd_P (upd_P (fun _ => ⟨by decide, by decide⟩) ⟨by decide, by decide⟩) ⟨by decide, by decide⟩) ⟨by decide, by decide⟩) ⟨by decide, by decide⟩) ⟨by decide, by decide⟩) ⟨by decide, by decide⟩
def q_X3_init (cy : Nat → ClassId) (h0 : Nat) (kd : Nat) : va_W → Prop := fun (u : va_W) => ∃ (q1 : Nat), ∃ (q2 : Nat), ∃ (q3 : Nat), ∃ (z : Nat), ∃ (f : Nat → Int32), ∃ (g : Nat → Int32), ∃ (h : Nat → Int32), u = [(h0, .inr (3, [.int (nI z), .ref q1, .ref q2, .ref q3])), (q1, .inl (cy 0, 150, .inl f)), (q2, .inl (cy 0, 24, .inl g)), (q3, .inl (cy 0, 24, .inl h))] ∧ 1 ≤ z ∧ z ≤ 24 ∧ (∀ j, okv (f j))
set_option maxHeartbeats 4000000 in
set_option maxRecDepth 100000 in
theorem c_X3_init (l : Launch) (D : va_G) (cy : Nat → ClassId) (sz : Nat) (h0 : Nat) (kd : Nat) (hkd : kd < 5) : Met l yX3_init wsX3_init ({ frames := 3, cells := 3, slots := 198, locals := 68 } : Room) (va_Pc [.ref h0, .int (nI kd)] (cpre D cy [(h0, .inr (3, [.int 0, .null, .null, .null]))] sz)) (va_Qv (q_X3_init cy h0 kd) (cpost D (va_A [(h0, .inr (3, [.int 0, .null, .null, .null]))] sz)) (va_A [(h0, .inr (3, [.int 0, .null, .null, .null]))] sz)) 3 198 (va_A [(h0, .inr (3, [.int 0, .null, .null, .null]))] sz) := by
  refine Met.ofW (cc := cX3_init) (maxL := 4) (ret := none) (by decide) rfl ?_
  intro p e s m args below meth c s₁ B hml hv
  obtain ⟨rfl, hsz, hP, hD0, hX⟩ := hv
  have hx := B.exec
  have hb := B.bytes
  have hr := B.returns
  have hts := atoms_spec (ws := wsX3_init) B.pre
  have hown : s.vm.findClass RX3 = some m.cls := findClass_of_methodNamed B.named
  have hlocks := B.notSynchronized
  have hin : meth.name = "<init>" := (name_of_methodNamed B.named B.method).1
  subst hsz
  have hD := hD0.self (sz := s.heap.size)
  generalize hAe : va_A [(h0, .inr (3, [.int 0, .null, .null, .null]))] s.heap.size = A at hD hX ⊢
  have hA : ∀ q : Nat, s.heap.size ≤ q → A q := fun q h => by rw [← hAe]; exact Or.inr h
  obtain ⟨H, hH⟩ : ∃ H : Heap, H = s.heap := ⟨_, rfl⟩
  have hS : va_S A s.heap H [] := hH ▸ va_S.rf
  have hK := hX.1
  have hP : va_P D vwCl [(h0, .inr (3, [.int 0, .null, .null, .null]))] H := hH ▸ hP
  rw [← hH]
  have hw_X3 : ∀ w ∈ wsX30, w ∈ wsX3_init := by decide +kernel
  have m_3 := hts (.methodLink RX3 3 objectInit) (by decide +kernel)
  have oi_i := hts (.instanceMethod objectInit) (by decide +kernel)
  have oi_c := hts (.code objectInit ⟨#[0xb1]⟩ 1 none) (by decide +kernel)
  have f_9 := hts (.fieldLink RX3 9 "CubeTower$Ways" "size" "I") (by decide +kernel)
  have ac_I := hts (.arrayClass .int) (by decide +kernel)
  have f_15 := hts (.fieldLink RX3 15 "CubeTower$Ways" "sideAt" "[I") (by decide +kernel)
  have f_19 := hts (.fieldLink RX3 19 "CubeTower$Ways" "turnsTo" "[I") (by decide +kernel)
  have f_22 := hts (.fieldLink RX3 22 "CubeTower$Ways" "firstTurns" "[I") (by decide +kernel)
  have ini_X4 := hts (.initialized RX4) (by decide +kernel)
  have st_X4_canTurn := hts (.static yX4_canTurn) (by decide +kernel)
  have hl := lv_entry ([.ref h0, .int (nI kd)]) (n := 4) (Nat.le_of_ble_eq_true rfl)
  rw [lg_entry_eq]
  generalize (lg_sl ([.ref h0, .int (nI kd)]) ++ List.replicate (4 - (lg_sl ([.ref h0, .int (nI kd)])).length) Slot.unset).toArray = ls at hl ⊢
  have hl : lv_has ls 4 [(0, .ref h0), (1, .int (nI kd))] := hl
  refine lv_aload_n hx hb dX3_init_0 rfl (lv_at hl 0 rfl) ?_
  refine W.objInit hx hb hown m_3 oi_i oi_c rfl (by rw [hml]; exact hl.1) rfl dX3_init_1 (Nat.le_of_ble_eq_true rfl) (Nat.le_of_ble_eq_true rfl) ?_
  refine W.eq (g2 := F0 m 4 ls []) rfl ?_
  refine lv_aload_n hx hb dX3_init_4 rfl (lv_at hl 0 rfl) ?_
  refine lv_iconst (v := 1) hx hb dX3_init_5 (by decide) ?_
  refine va_put (D := D) (ci := 3) (v := .int 1) (ty := .int) (C := RX3) (T := TX3) (N := 4) hx hb hts hw_X3 tyX3 tyX3_ok nmX3 hown hK hP hD hS 0 rfl rfl 0 (by decide) f_9 (fun _ h9 => h9) rfl (by decide +kernel) rfl rfl (Nat.le_of_ble_eq_true rfl) dX3_init_6 (fun H locs hP hD hS => ?_)
  have hP : va_P D vwCl [(h0, .inr (3, [.int 1, .null, .null, .null]))] H := hP
  have hD : va_D A [(h0, .inr (3, [.int 1, .null, .null, .null]))] := hD
  refine lv_aload_n hx hb dX3_init_9 rfl (lv_at hl 0 rfl) ?_
  refine lv_sipush (v := 150) hx hb dX3_init_10 (by decide) ?_
  refine nw_i (N' := 150) hx hb hX ac_I hP hD hS hA (by decide) (by decide) (by decide) (Nat.le_of_ble_eq_true rfl) (Nat.le_of_ble_eq_true rfl) dX3_init_13 (fun q1 H hP hD hS => ?_)
  refine W.widen (k := 1) (n := 150) (Nat.le_of_ble_eq_true rfl) (Nat.le_of_ble_eq_true rfl) ?_
  have hP : va_P D vwCl [(h0, .inr (3, [.int 1, .null, .null, .null])), (q1, .inl (cy 0, 150, .inl (fun _ => 0)))] H := hP
  have hD : va_D A [(h0, .inr (3, [.int 1, .null, .null, .null])), (q1, .inl (cy 0, 150, .inl (fun _ => 0)))] := hD
  refine va_putF (D := D) (ci := 3) (v := .ref q1) (ty := (.array .int)) (C := RX3) (T := TX3) (N := 4) hx hb hts hw_X3 tyX3 tyX3_ok nmX3 hown hK hP hD hS 0 rfl rfl 1 (by decide) f_15 (fun _ h9 => h9) rfl hin rfl (by decide +kernel) rfl rfl (Nat.le_of_ble_eq_true rfl) dX3_init_15 (fun H locs hP hD hS => ?_)
  have hP : va_P D vwCl [(h0, .inr (3, [.int 1, .ref q1, .null, .null])), (q1, .inl (cy 0, 150, .inl (fun _ => 0)))] H := hP
  have hD : va_D A [(h0, .inr (3, [.int 1, .ref q1, .null, .null])), (q1, .inl (cy 0, 150, .inl (fun _ => 0)))] := hD
  refine lv_aload_n hx hb dX3_init_18 rfl (lv_at hl 0 rfl) ?_
  refine lv_bipush (v := 24) hx hb dX3_init_19 (by decide) ?_
  refine nw_i (N' := 24) hx hb hX ac_I hP hD hS hA (by decide) (by decide) (by decide) (Nat.le_of_ble_eq_true rfl) (Nat.le_of_ble_eq_true rfl) dX3_init_21 (fun q2 H hP hD hS => ?_)
  refine W.widen (k := 2) (n := 174) (Nat.le_of_ble_eq_true rfl) (Nat.le_of_ble_eq_true rfl) ?_
  have hP : va_P D vwCl [(h0, .inr (3, [.int 1, .ref q1, .null, .null])), (q1, .inl (cy 0, 150, .inl (fun _ => 0))), (q2, .inl (cy 0, 24, .inl (fun _ => 0)))] H := hP
  have hD : va_D A [(h0, .inr (3, [.int 1, .ref q1, .null, .null])), (q1, .inl (cy 0, 150, .inl (fun _ => 0))), (q2, .inl (cy 0, 24, .inl (fun _ => 0)))] := hD
  refine va_putF (D := D) (ci := 3) (v := .ref q2) (ty := (.array .int)) (C := RX3) (T := TX3) (N := 4) hx hb hts hw_X3 tyX3 tyX3_ok nmX3 hown hK hP hD hS 0 rfl rfl 2 (by decide) f_19 (fun _ h9 => h9) rfl hin rfl (by decide +kernel) rfl rfl (Nat.le_of_ble_eq_true rfl) dX3_init_23 (fun H locs hP hD hS => ?_)
  have hP : va_P D vwCl [(h0, .inr (3, [.int 1, .ref q1, .ref q2, .null])), (q1, .inl (cy 0, 150, .inl (fun _ => 0))), (q2, .inl (cy 0, 24, .inl (fun _ => 0)))] H := hP
  have hD : va_D A [(h0, .inr (3, [.int 1, .ref q1, .ref q2, .null])), (q1, .inl (cy 0, 150, .inl (fun _ => 0))), (q2, .inl (cy 0, 24, .inl (fun _ => 0)))] := hD
  refine lv_aload_n hx hb dX3_init_26 rfl (lv_at hl 0 rfl) ?_
  refine lv_bipush (v := 24) hx hb dX3_init_27 (by decide) ?_
  refine nw_i (N' := 24) hx hb hX ac_I hP hD hS hA (by decide) (by decide) (by decide) (Nat.le_of_ble_eq_true rfl) (Nat.le_of_ble_eq_true rfl) dX3_init_29 (fun q3 H hP hD hS => ?_)
  refine W.widen (k := 3) (n := 198) (Nat.le_of_ble_eq_true rfl) (Nat.le_of_ble_eq_true rfl) ?_
  have hP : va_P D vwCl [(h0, .inr (3, [.int 1, .ref q1, .ref q2, .null])), (q1, .inl (cy 0, 150, .inl (fun _ => 0))), (q2, .inl (cy 0, 24, .inl (fun _ => 0))), (q3, .inl (cy 0, 24, .inl (fun _ => 0)))] H := hP
  have hD : va_D A [(h0, .inr (3, [.int 1, .ref q1, .ref q2, .null])), (q1, .inl (cy 0, 150, .inl (fun _ => 0))), (q2, .inl (cy 0, 24, .inl (fun _ => 0))), (q3, .inl (cy 0, 24, .inl (fun _ => 0)))] := hD
  refine va_putF (D := D) (ci := 3) (v := .ref q3) (ty := (.array .int)) (C := RX3) (T := TX3) (N := 4) hx hb hts hw_X3 tyX3 tyX3_ok nmX3 hown hK hP hD hS 0 rfl rfl 3 (by decide) f_22 (fun _ h9 => h9) rfl hin rfl (by decide +kernel) rfl rfl (Nat.le_of_ble_eq_true rfl) dX3_init_31 (fun H locs hP hD hS => ?_)
  have hP : va_P D vwCl [(h0, .inr (3, [.int 1, .ref q1, .ref q2, .ref q3])), (q1, .inl (cy 0, 150, .inl (fun _ => 0))), (q2, .inl (cy 0, 24, .inl (fun _ => 0))), (q3, .inl (cy 0, 24, .inl (fun _ => 0)))] H := hP
  have hD : va_D A [(h0, .inr (3, [.int 1, .ref q1, .ref q2, .ref q3])), (q1, .inl (cy 0, 150, .inl (fun _ => 0))), (q2, .inl (cy 0, 24, .inl (fun _ => 0))), (q3, .inl (cy 0, 24, .inl (fun _ => 0)))] := hD
  refine lv_iconst (v := 0) hx hb dX3_init_34 (by decide) ?_
  refine lv_istore_n (lv' := [(2, .int 0), (0, .ref h0), (1, .int (nI kd))]) hx hb dX3_init_35 rfl hl (by decide) rfl (fun ls hl => ?_)
  refine lv_iload_n hx hb dX3_init_36 rfl (lv_at hl 0 rfl) ?_
  refine lv_bipush (v := 6) hx hb dX3_init_37 (by decide) ?_
  refine lv_icmp_ge (tgt := 55) hx hb dX3_init_39 (by decide) (fun c_39 => ?_) (fun c_39 => ?_)
  · exact absurd c_39 (by decide)
  · refine lv_aload_n hx hb dX3_init_42 rfl (lv_at hl 1 rfl) ?_
    refine va_get (D := D) (ci := 3) (v := .ref q1) (C := RX3) (T := TX3) (N := 4) hx hb hts hw_X3 hown hK hP 0 rfl rfl 1 (by decide) f_15 (fun _ h9 => h9) rfl dX3_init_43 ?_
    refine lv_iload_n hx hb dX3_init_46 rfl (lv_at hl 0 rfl) ?_
    refine lv_iload_n hx hb dX3_init_47 rfl (lv_at hl 0 rfl) ?_
    refine va_iast hx hb hK hP hD hS 1 0 rfl rfl (vi_c (by decide +kernel)) dX3_init_48 (fun H locs hP hD hS => ?_)
    have hP : va_P D vwCl [(h0, .inr (3, [.int 1, .ref q1, .ref q2, .ref q3])), (q1, .inl (cy 0, 150, .inl (upd (fun _ => 0) 0 0))), (q2, .inl (cy 0, 24, .inl (fun _ => 0))), (q3, .inl (cy 0, 24, .inl (fun _ => 0)))] H := hP
    have hD : va_D A [(h0, .inr (3, [.int 1, .ref q1, .ref q2, .ref q3])), (q1, .inl (cy 0, 150, .inl (upd (fun _ => 0) 0 0))), (q2, .inl (cy 0, 24, .inl (fun _ => 0))), (q3, .inl (cy 0, 24, .inl (fun _ => 0)))] := hD
    refine lv_iinc (v := 1) (lv' := [(2, .int 1), (0, .ref h0), (1, .int (nI kd))]) hx hb dX3_init_49 hl (k := 0) rfl (by decide) (by decide) rfl (fun ls hl => ?_)
    refine lv_goto (tgt := 36) hx hb dX3_init_52 (by decide) ?_
    refine lv_iload_n hx hb dX3_init_36 rfl (lv_at hl 0 rfl) ?_
    refine lv_bipush (v := 6) hx hb dX3_init_37 (by decide) ?_
    refine lv_icmp_ge (tgt := 55) hx hb dX3_init_39 (by decide) (fun c_39 => ?_) (fun c_39 => ?_)
    · exact absurd c_39 (by decide)
    · refine lv_aload_n hx hb dX3_init_42 rfl (lv_at hl 1 rfl) ?_
      refine va_get (D := D) (ci := 3) (v := .ref q1) (C := RX3) (T := TX3) (N := 4) hx hb hts hw_X3 hown hK hP 0 rfl rfl 1 (by decide) f_15 (fun _ h9 => h9) rfl dX3_init_43 ?_
      refine lv_iload_n hx hb dX3_init_46 rfl (lv_at hl 0 rfl) ?_
      refine lv_iload_n hx hb dX3_init_47 rfl (lv_at hl 0 rfl) ?_
      refine va_iast hx hb hK hP hD hS 1 0 rfl rfl (vi_c (by decide +kernel)) dX3_init_48 (fun H locs hP hD hS => ?_)
      have hP : va_P D vwCl [(h0, .inr (3, [.int 1, .ref q1, .ref q2, .ref q3])), (q1, .inl (cy 0, 150, .inl (upd (upd (fun _ => 0) 0 0) 1 1))), (q2, .inl (cy 0, 24, .inl (fun _ => 0))), (q3, .inl (cy 0, 24, .inl (fun _ => 0)))] H := hP
      have hD : va_D A [(h0, .inr (3, [.int 1, .ref q1, .ref q2, .ref q3])), (q1, .inl (cy 0, 150, .inl (upd (upd (fun _ => 0) 0 0) 1 1))), (q2, .inl (cy 0, 24, .inl (fun _ => 0))), (q3, .inl (cy 0, 24, .inl (fun _ => 0)))] := hD
      refine lv_iinc (v := 2) (lv' := [(2, .int 2), (0, .ref h0), (1, .int (nI kd))]) hx hb dX3_init_49 hl (k := 0) rfl (by decide) (by decide) rfl (fun ls hl => ?_)
      refine lv_goto (tgt := 36) hx hb dX3_init_52 (by decide) ?_
      refine lv_iload_n hx hb dX3_init_36 rfl (lv_at hl 0 rfl) ?_
      refine lv_bipush (v := 6) hx hb dX3_init_37 (by decide) ?_
      refine lv_icmp_ge (tgt := 55) hx hb dX3_init_39 (by decide) (fun c_39 => ?_) (fun c_39 => ?_)
      · exact absurd c_39 (by decide)
      · refine lv_aload_n hx hb dX3_init_42 rfl (lv_at hl 1 rfl) ?_
        refine va_get (D := D) (ci := 3) (v := .ref q1) (C := RX3) (T := TX3) (N := 4) hx hb hts hw_X3 hown hK hP 0 rfl rfl 1 (by decide) f_15 (fun _ h9 => h9) rfl dX3_init_43 ?_
        refine lv_iload_n hx hb dX3_init_46 rfl (lv_at hl 0 rfl) ?_
        refine lv_iload_n hx hb dX3_init_47 rfl (lv_at hl 0 rfl) ?_
        refine va_iast hx hb hK hP hD hS 1 0 rfl rfl (vi_c (by decide +kernel)) dX3_init_48 (fun H locs hP hD hS => ?_)
        have hP : va_P D vwCl [(h0, .inr (3, [.int 1, .ref q1, .ref q2, .ref q3])), (q1, .inl (cy 0, 150, .inl (upd (upd (upd (fun _ => 0) 0 0) 1 1) 2 2))), (q2, .inl (cy 0, 24, .inl (fun _ => 0))), (q3, .inl (cy 0, 24, .inl (fun _ => 0)))] H := hP
        have hD : va_D A [(h0, .inr (3, [.int 1, .ref q1, .ref q2, .ref q3])), (q1, .inl (cy 0, 150, .inl (upd (upd (upd (fun _ => 0) 0 0) 1 1) 2 2))), (q2, .inl (cy 0, 24, .inl (fun _ => 0))), (q3, .inl (cy 0, 24, .inl (fun _ => 0)))] := hD
        refine lv_iinc (v := 3) (lv' := [(2, .int 3), (0, .ref h0), (1, .int (nI kd))]) hx hb dX3_init_49 hl (k := 0) rfl (by decide) (by decide) rfl (fun ls hl => ?_)
        refine lv_goto (tgt := 36) hx hb dX3_init_52 (by decide) ?_
        refine lv_iload_n hx hb dX3_init_36 rfl (lv_at hl 0 rfl) ?_
        refine lv_bipush (v := 6) hx hb dX3_init_37 (by decide) ?_
        refine lv_icmp_ge (tgt := 55) hx hb dX3_init_39 (by decide) (fun c_39 => ?_) (fun c_39 => ?_)
        · exact absurd c_39 (by decide)
        · refine lv_aload_n hx hb dX3_init_42 rfl (lv_at hl 1 rfl) ?_
          refine va_get (D := D) (ci := 3) (v := .ref q1) (C := RX3) (T := TX3) (N := 4) hx hb hts hw_X3 hown hK hP 0 rfl rfl 1 (by decide) f_15 (fun _ h9 => h9) rfl dX3_init_43 ?_
          refine lv_iload_n hx hb dX3_init_46 rfl (lv_at hl 0 rfl) ?_
          refine lv_iload_n hx hb dX3_init_47 rfl (lv_at hl 0 rfl) ?_
          refine va_iast hx hb hK hP hD hS 1 0 rfl rfl (vi_c (by decide +kernel)) dX3_init_48 (fun H locs hP hD hS => ?_)
          have hP : va_P D vwCl [(h0, .inr (3, [.int 1, .ref q1, .ref q2, .ref q3])), (q1, .inl (cy 0, 150, .inl (upd (upd (upd (upd (fun _ => 0) 0 0) 1 1) 2 2) 3 3))), (q2, .inl (cy 0, 24, .inl (fun _ => 0))), (q3, .inl (cy 0, 24, .inl (fun _ => 0)))] H := hP
          have hD : va_D A [(h0, .inr (3, [.int 1, .ref q1, .ref q2, .ref q3])), (q1, .inl (cy 0, 150, .inl (upd (upd (upd (upd (fun _ => 0) 0 0) 1 1) 2 2) 3 3))), (q2, .inl (cy 0, 24, .inl (fun _ => 0))), (q3, .inl (cy 0, 24, .inl (fun _ => 0)))] := hD
          refine lv_iinc (v := 4) (lv' := [(2, .int 4), (0, .ref h0), (1, .int (nI kd))]) hx hb dX3_init_49 hl (k := 0) rfl (by decide) (by decide) rfl (fun ls hl => ?_)
          refine lv_goto (tgt := 36) hx hb dX3_init_52 (by decide) ?_
          refine lv_iload_n hx hb dX3_init_36 rfl (lv_at hl 0 rfl) ?_
          refine lv_bipush (v := 6) hx hb dX3_init_37 (by decide) ?_
          refine lv_icmp_ge (tgt := 55) hx hb dX3_init_39 (by decide) (fun c_39 => ?_) (fun c_39 => ?_)
          · exact absurd c_39 (by decide)
          · refine lv_aload_n hx hb dX3_init_42 rfl (lv_at hl 1 rfl) ?_
            refine va_get (D := D) (ci := 3) (v := .ref q1) (C := RX3) (T := TX3) (N := 4) hx hb hts hw_X3 hown hK hP 0 rfl rfl 1 (by decide) f_15 (fun _ h9 => h9) rfl dX3_init_43 ?_
            refine lv_iload_n hx hb dX3_init_46 rfl (lv_at hl 0 rfl) ?_
            refine lv_iload_n hx hb dX3_init_47 rfl (lv_at hl 0 rfl) ?_
            refine va_iast hx hb hK hP hD hS 1 0 rfl rfl (vi_c (by decide +kernel)) dX3_init_48 (fun H locs hP hD hS => ?_)
            have hP : va_P D vwCl [(h0, .inr (3, [.int 1, .ref q1, .ref q2, .ref q3])), (q1, .inl (cy 0, 150, .inl (upd (upd (upd (upd (upd (fun _ => 0) 0 0) 1 1) 2 2) 3 3) 4 4))), (q2, .inl (cy 0, 24, .inl (fun _ => 0))), (q3, .inl (cy 0, 24, .inl (fun _ => 0)))] H := hP
            have hD : va_D A [(h0, .inr (3, [.int 1, .ref q1, .ref q2, .ref q3])), (q1, .inl (cy 0, 150, .inl (upd (upd (upd (upd (upd (fun _ => 0) 0 0) 1 1) 2 2) 3 3) 4 4))), (q2, .inl (cy 0, 24, .inl (fun _ => 0))), (q3, .inl (cy 0, 24, .inl (fun _ => 0)))] := hD
            refine lv_iinc (v := 5) (lv' := [(2, .int 5), (0, .ref h0), (1, .int (nI kd))]) hx hb dX3_init_49 hl (k := 0) rfl (by decide) (by decide) rfl (fun ls hl => ?_)
            refine lv_goto (tgt := 36) hx hb dX3_init_52 (by decide) ?_
            refine lv_iload_n hx hb dX3_init_36 rfl (lv_at hl 0 rfl) ?_
            refine lv_bipush (v := 6) hx hb dX3_init_37 (by decide) ?_
            refine lv_icmp_ge (tgt := 55) hx hb dX3_init_39 (by decide) (fun c_39 => ?_) (fun c_39 => ?_)
            · exact absurd c_39 (by decide)
            · refine lv_aload_n hx hb dX3_init_42 rfl (lv_at hl 1 rfl) ?_
              refine va_get (D := D) (ci := 3) (v := .ref q1) (C := RX3) (T := TX3) (N := 4) hx hb hts hw_X3 hown hK hP 0 rfl rfl 1 (by decide) f_15 (fun _ h9 => h9) rfl dX3_init_43 ?_
              refine lv_iload_n hx hb dX3_init_46 rfl (lv_at hl 0 rfl) ?_
              refine lv_iload_n hx hb dX3_init_47 rfl (lv_at hl 0 rfl) ?_
              refine va_iast hx hb hK hP hD hS 1 0 rfl rfl (vi_c (by decide +kernel)) dX3_init_48 (fun H locs hP hD hS => ?_)
              have hP : va_P D vwCl [(h0, .inr (3, [.int 1, .ref q1, .ref q2, .ref q3])), (q1, .inl (cy 0, 150, .inl (upd (upd (upd (upd (upd (upd (fun _ => 0) 0 0) 1 1) 2 2) 3 3) 4 4) 5 5))), (q2, .inl (cy 0, 24, .inl (fun _ => 0))), (q3, .inl (cy 0, 24, .inl (fun _ => 0)))] H := hP
              have hD : va_D A [(h0, .inr (3, [.int 1, .ref q1, .ref q2, .ref q3])), (q1, .inl (cy 0, 150, .inl (upd (upd (upd (upd (upd (upd (fun _ => 0) 0 0) 1 1) 2 2) 3 3) 4 4) 5 5))), (q2, .inl (cy 0, 24, .inl (fun _ => 0))), (q3, .inl (cy 0, 24, .inl (fun _ => 0)))] := hD
              refine lv_iinc (v := 6) (lv' := [(2, .int 6), (0, .ref h0), (1, .int (nI kd))]) hx hb dX3_init_49 hl (k := 0) rfl (by decide) (by decide) rfl (fun ls hl => ?_)
              refine lv_goto (tgt := 36) hx hb dX3_init_52 (by decide) ?_
              refine lv_iload_n hx hb dX3_init_36 rfl (lv_at hl 0 rfl) ?_
              refine lv_bipush (v := 6) hx hb dX3_init_37 (by decide) ?_
              refine lv_icmp_ge (tgt := 55) hx hb dX3_init_39 (by decide) (fun c_39 => ?_) (fun c_39 => ?_)
              · refine lv_iconst (v := 0) hx hb dX3_init_55 (by decide) ?_
                refine lv_istore_n (lv' := [(2, .int 0), (0, .ref h0), (1, .int (nI kd))]) hx hb dX3_init_56 rfl hl (by decide) rfl (fun ls hl => ?_)
                have lp_57 : ∀ (n_57 : Nat) (z : Nat) (f : Nat → Int32) (g : Nat → Int32) (h : Nat → Int32) (fr : Nat) (hz1 : 1 ≤ z) (hz2 : z ≤ 24) (hok : ∀ j, okv (f j)) (hfr : fr ≤ 24) (hm : 24 < fr + n_57) (H : Heap) (locs : List Loc) (ls : Array Slot), va_P D vwCl [(h0, .inr (3, [.int (nI z), .ref q1, .ref q2, .ref q3])), (q1, .inl (cy 0, 150, .inl f)), (q2, .inl (cy 0, 24, .inl g)), (q3, .inl (cy 0, 24, .inl h))] H → va_D A [(h0, .inr (3, [.int (nI z), .ref q1, .ref q2, .ref q3])), (q1, .inl (cy 0, 150, .inl f)), (q2, .inl (cy 0, 24, .inl g)), (q3, .inl (cy 0, 24, .inl h))] → va_S A s.heap H locs → lv_has ls 4 [(0, .ref h0), (1, .int (nI kd)), (2, .int (nI fr))] → W p l e (headSpec wsX3_init ({ frames := 3, cells := 3, slots := 198, locals := 68 } : Room)).room s m ([.ref h0, .int (nI kd)] : List Value).toArray below meth c H locs 3 198 (MQ below (va_Qv (q_X3_init cy h0 kd) (cpost D A) A) ([.ref h0, .int (nI kd)] : List Value).toArray s 3 198 A) (F0 m 57 ls []) := by
                  intro n_57
                  induction n_57 with
                  | zero => intro z f g h fr hz1 hz2 hok hfr hm; exact absurd hm (by omega)
                  | succ n_57 ih_57 =>
                    intro z f g h fr hz1 hz2 hok hfr hm H locs ls hP hD hS hl
                    refine lv_iload_n hx hb dX3_init_57 rfl (lv_at hl 2 rfl) ?_
                    refine lv_aload_n hx hb dX3_init_58 rfl (lv_at hl 0 rfl) ?_
                    refine va_get (D := D) (ci := 3) (v := .int (nI z)) (C := RX3) (T := TX3) (N := 4) hx hb hts hw_X3 hown hK hP 0 rfl rfl 0 (by decide) f_9 (fun _ h9 => h9) rfl dX3_init_59 ?_
                    refine lv_icmp_ge (tgt := 105) hx hb dX3_init_62 (by decide) (fun c_62 => ?_) (fun c_62 => ?_)
                    · have hP9 := hP.sub (ws' := [(h0, .inr (3, [.int (nI z), .ref q1, .ref q2, .ref q3])), (q1, .inl (cy 0, 150, .inl f)), (q2, .inl (cy 0, 24, .inl g)), (q3, .inl (cy 0, 24, .inl h))]) [0, 1, 2, 3] rfl
                      have hD9 := hD.sub (ws' := [(h0, .inr (3, [.int (nI z), .ref q1, .ref q2, .ref q3])), (q1, .inl (cy 0, 150, .inl f)), (q2, .inl (cy 0, 24, .inl g)), (q3, .inl (cy 0, 24, .inl h))]) [0, 1, 2, 3] (by decide) rfl
                      exact W.vret hx hb hr (fun t9 ht9 hW9 => ⟨⟨[(h0, .inr (3, [.int (nI z), .ref q1, .ref q2, .ref q3])), (q1, .inl (cy 0, 150, .inl f)), (q2, .inl (cy 0, 24, .inl g)), (q3, .inl (cy 0, 24, .inl h))], rfl, ⟨q1, q2, q3, z, f, g, h, rfl, hz1, hz2, hok⟩, by rw [ht9]; exact hP9, hD9⟩, hS.F ht9⟩) hS.2.2 dX3_init_105
                    · have hfz : fr < z := nI_ltN (by omega) c_62
                      refine lv_iload_n hx hb dX3_init_65 rfl (lv_at hl 2 rfl) ?_
                      refine lv_bipush (v := 24) hx hb dX3_init_66 (by decide) ?_
                      refine lv_icmp_ge (tgt := 105) hx hb dX3_init_68 (by decide) (fun c_68 => ?_) (fun c_68 => ?_)
                      · have hP9 := hP.sub (ws' := [(h0, .inr (3, [.int (nI z), .ref q1, .ref q2, .ref q3])), (q1, .inl (cy 0, 150, .inl f)), (q2, .inl (cy 0, 24, .inl g)), (q3, .inl (cy 0, 24, .inl h))]) [0, 1, 2, 3] rfl
                        have hD9 := hD.sub (ws' := [(h0, .inr (3, [.int (nI z), .ref q1, .ref q2, .ref q3])), (q1, .inl (cy 0, 150, .inl f)), (q2, .inl (cy 0, 24, .inl g)), (q3, .inl (cy 0, 24, .inl h))]) [0, 1, 2, 3] (by decide) rfl
                        exact W.vret hx hb hr (fun t9 ht9 hW9 => ⟨⟨[(h0, .inr (3, [.int (nI z), .ref q1, .ref q2, .ref q3])), (q1, .inl (cy 0, 150, .inl f)), (q2, .inl (cy 0, 24, .inl g)), (q3, .inl (cy 0, 24, .inl h))], rfl, ⟨q1, q2, q3, z, f, g, h, rfl, hz1, hz2, hok⟩, by rw [ht9]; exact hP9, hD9⟩, hS.F ht9⟩) hS.2.2 dX3_init_105
                      · have hf24 : fr < 24 := nI_ltN (b := 24) (by omega) c_68
                        refine lv_iconst (v := 0) hx hb dX3_init_71 (by decide) ?_
                        refine lv_istore_n (lv' := [(3, .int 0), (0, .ref h0), (1, .int (nI kd)), (2, .int (nI fr))]) hx hb dX3_init_72 rfl hl (by decide) rfl (fun ls hl => ?_)
                        have lp_73 : ∀ (n_73 : Nat) (z1 : Nat) (f1 : Nat → Int32) (g1 : Nat → Int32) (h1 : Nat → Int32) (t : Nat) (hz3 : 1 ≤ z1) (hz4 : z1 ≤ 24) (hfz : fr < z1) (hok1 : ∀ j, okv (f1 j)) (ht : t ≤ 4) (hm : 4 < t + n_73) (H : Heap) (locs : List Loc) (ls : Array Slot), va_P D vwCl [(h0, .inr (3, [.int (nI z1), .ref q1, .ref q2, .ref q3])), (q1, .inl (cy 0, 150, .inl f1)), (q2, .inl (cy 0, 24, .inl g1)), (q3, .inl (cy 0, 24, .inl h1))] H → va_D A [(h0, .inr (3, [.int (nI z1), .ref q1, .ref q2, .ref q3])), (q1, .inl (cy 0, 150, .inl f1)), (q2, .inl (cy 0, 24, .inl g1)), (q3, .inl (cy 0, 24, .inl h1))] → va_S A s.heap H locs → lv_has ls 4 [(0, .ref h0), (1, .int (nI kd)), (2, .int (nI fr)), (3, .int (nI t))] → W p l e (headSpec wsX3_init ({ frames := 3, cells := 3, slots := 198, locals := 68 } : Room)).room s m ([.ref h0, .int (nI kd)] : List Value).toArray below meth c H locs 3 198 (MQ below (va_Qv (q_X3_init cy h0 kd) (cpost D A) A) ([.ref h0, .int (nI kd)] : List Value).toArray s 3 198 A) (F0 m 73 ls []) := by
                          intro n_73
                          induction n_73 with
                          | zero => intro z1 f1 g1 h1 t hz3 hz4 hfz hok1 ht hm; exact absurd hm (by omega)
                          | succ n_73 ih_73 =>
                            intro z1 f1 g1 h1 t hz3 hz4 hfz hok1 ht hm H locs ls hP hD hS hl
                            refine lv_iload_n hx hb dX3_init_73 rfl (lv_at hl 3 rfl) ?_
                            refine lv_iconst (v := 4) hx hb dX3_init_74 (by decide) ?_
                            refine lv_icmp_ge (tgt := 99) hx hb dX3_init_75 (by decide) (fun c_75 => ?_) (fun c_75 => ?_)
                            · refine lv_iinc (v := nI (fr + 1)) (lv' := [(2, .int (nI (fr + 1))), (0, .ref h0), (1, .int (nI kd)), (3, .int (nI t))]) hx hb dX3_init_99 hl (k := 2) rfl ((nI_succ fr).symm) (by decide) rfl (fun ls hl => ?_)
                              refine lv_goto (tgt := 57) hx hb dX3_init_102 (by decide) ?_
                              exact ih_57 z1 f1 g1 h1 (fr + 1) hz3 hz4 hok1 (by omega) (by omega) _ _ _ (hP.sub [0, 1, 2, 3] rfl) (hD.sub [0, 1, 2, 3] (by decide) rfl) hS (lv_sub hl [1, 2, 0] rfl)
                            · have ht4 : t < 4 := nI_ltN (b := 4) (by omega) c_75
                              refine lv_iload_n hx hb dX3_init_78 rfl (lv_at hl 1 rfl) ?_
                              refine lv_iload_n hx hb dX3_init_79 rfl (lv_at hl 3 rfl) ?_
                              refine kc_i (wc := []) (wr := [(h0, .inr (3, [.int (nI z1), .ref q1, .ref q2, .ref q3])), (q1, .inl (cy 0, 150, .inl f1)), (q2, .inl (cy 0, 24, .inl g1)), (q3, .inl (cy 0, 24, .inl h1))]) (va_runSN (As := [.int (nI kd), .int (nI t)]) (rest := []) ⟨hx, hb, hml, hown, hts⟩ (c_X4_canTurn l D cy H.size kd (nI t) hkd) ⟨va_cnB 2 hts gX3_init_X4_canTurn_n25 rfl rfl rfl hX.2.2.1.2.2.2.1 ini_X4 (by decide +kernel) ⟨Nat.le_of_ble_eq_true rfl, Nat.le_of_ble_eq_true rfl⟩, st_X4_canTurn, trivial⟩ (cpre_S (wc := []) hX hP hD hS hA [] (by decide) rfl) rfl rfl hl.1 rfl (lv_room (Nat.le_of_ble_eq_true rfl)) dX3_init_80 ⟨Nat.le_of_ble_eq_true rfl, Nat.le_of_ble_eq_true rfl⟩) hP hD hS hA [] [0, 1, 2, 3] rfl rfl (by decide) (by decide) (fun r4 u5 H locs hw hP hD hS => ?_)
                              obtain ⟨hu, hf6⟩ := hw
                              subst hu
                              have hP : va_P D vwCl [(h0, .inr (3, [.int (nI z1), .ref q1, .ref q2, .ref q3])), (q1, .inl (cy 0, 150, .inl f1)), (q2, .inl (cy 0, 24, .inl g1)), (q3, .inl (cy 0, 24, .inl h1))] H := hP
                              have hD : va_D A [(h0, .inr (3, [.int (nI z1), .ref q1, .ref q2, .ref q3])), (q1, .inl (cy 0, 150, .inl f1)), (q2, .inl (cy 0, 24, .inl g1)), (q3, .inl (cy 0, 24, .inl h1))] := hD
                              refine lv_if_eq (tgt := 93) hx hb dX3_init_83 (by decide) (fun c_83 => ?_) (fun c_83 => ?_)
                              · refine lv_iinc (v := nI (t + 1)) (lv' := [(3, .int (nI (t + 1))), (0, .ref h0), (1, .int (nI kd)), (2, .int (nI fr))]) hx hb dX3_init_93 hl (k := 3) rfl ((nI_succ t).symm) (by decide) rfl (fun ls hl => ?_)
                                refine lv_goto (tgt := 73) hx hb dX3_init_96 (by decide) ?_
                                exact ih_73 z1 f1 g1 h1 (t + 1) hz3 hz4 hfz hok1 (by omega) (by omega) _ _ _ (hP.sub [0, 1, 2, 3] rfl) (hD.sub [0, 1, 2, 3] (by decide) rfl) hS (lv_sub hl [1, 2, 3, 0] rfl)
                              · refine lv_aload_n hx hb dX3_init_86 rfl (lv_at hl 0 rfl) ?_
                                refine lv_iload_n hx hb dX3_init_87 rfl (lv_at hl 2 rfl) ?_
                                refine lv_iload_n hx hb dX3_init_88 rfl (lv_at hl 1 rfl) ?_
                                refine lv_iload_n hx hb dX3_init_89 rfl (lv_at hl 3 rfl) ?_
                                refine kc_v (wc := [(h0, .inr (3, [.int (nI z1), .ref q1, .ref q2, .ref q3])), (q1, .inl (cy 0, 150, .inl f1)), (q2, .inl (cy 0, 24, .inl g1)), (q3, .inl (cy 0, 24, .inl h1))]) (wr := []) (va_runV (As := [.int (nI fr), .int (nI kd), .int (nI t)]) (rest := []) ⟨hx, hb, hml, hown, hts⟩ (c_X3_reach l D cy H.size h0 q1 q2 q3 z1 f1 g1 h1 fr kd t hz4 hfz hkd ht4) (cwV 3 hts gX3_init_X3_reach rfl rfl rfl (by decide +kernel) ⟨Nat.le_of_ble_eq_true rfl, Nat.le_of_ble_eq_true rfl⟩) (cpre_V (wc := [(h0, .inr (3, [.int (nI z1), .ref q1, .ref q2, .ref q3])), (q1, .inl (cy 0, 150, .inl f1)), (q2, .inl (cy 0, 24, .inl g1)), (q3, .inl (cy 0, 24, .inl h1))]) 0 3 rfl rfl hX hP hD hS hA [0, 1, 2, 3] (by decide) rfl) rfl rfl hl.1 rfl (lv_room (Nat.le_of_ble_eq_true rfl)) dX3_init_90 ⟨Nat.le_of_ble_eq_true rfl, Nat.le_of_ble_eq_true rfl⟩) hP hD hS hA [0, 1, 2, 3] [] rfl rfl (by decide) (by decide) (fun u8 H locs hw hP hD hS => ?_)
                                obtain ⟨z5, f5, g5, h5, hu, hy1, hy2, hy3⟩ := hw
                                subst hu
                                have hP : va_P D vwCl [(h0, .inr (3, [.int (nI z5), .ref q1, .ref q2, .ref q3])), (q1, .inl (cy 0, 150, .inl f5)), (q2, .inl (cy 0, 24, .inl g5)), (q3, .inl (cy 0, 24, .inl h5))] H := hP
                                have hD : va_D A [(h0, .inr (3, [.int (nI z5), .ref q1, .ref q2, .ref q3])), (q1, .inl (cy 0, 150, .inl f5)), (q2, .inl (cy 0, 24, .inl g5)), (q3, .inl (cy 0, 24, .inl h5))] := hD
                                refine lv_iinc (v := nI (t + 1)) (lv' := [(3, .int (nI (t + 1))), (0, .ref h0), (1, .int (nI kd)), (2, .int (nI fr))]) hx hb dX3_init_93 hl (k := 3) rfl ((nI_succ t).symm) (by decide) rfl (fun ls hl => ?_)
                                refine lv_goto (tgt := 73) hx hb dX3_init_96 (by decide) ?_
                                exact ih_73 z5 f5 g5 h5 (t + 1) (by omega) hy2 (by omega) (hy3 _ hok1) (by omega) (by omega) _ _ _ (hP.sub [0, 1, 2, 3] rfl) (hD.sub [0, 1, 2, 3] (by decide) rfl) hS (lv_sub hl [1, 2, 3, 0] rfl)
                        exact lp_73 5 z f g h 0 hz1 hz2 hfz hok (by decide) (by omega) _ _ _ (hP.sub [0, 1, 2, 3] rfl) (hD.sub [0, 1, 2, 3] (by decide) rfl) hS (lv_sub hl [1, 2, 3, 0] rfl)
                exact lp_57 25 1 (upd (upd (upd (upd (upd (upd (fun _ => 0) 0 0) 1 1) 2 2) 3 3) 4 4) 5 5) (fun _ => 0) (fun _ => 0) 0 (by decide) (by decide) okv0 (by decide) (by omega) _ _ _ (hP.sub [0, 1, 2, 3] rfl) (hD.sub [0, 1, 2, 3] (by decide) rfl) hS (lv_sub hl [1, 2, 0] rfl)
              · exact absurd c_39 (by decide)
end
section
def q_X0_init (cy : Nat → ClassId) (h0 : Nat) : va_W → Prop := fun (u : va_W) => ∃ (qa : Nat), u = [(h0, .inr (0, [.int 0, .int 31, .ref qa])), (qa, .inl (cy 0, 6, .inl (fun _ => 0)))]
set_option maxHeartbeats 4000000 in
set_option maxRecDepth 100000 in
theorem c_X0_init (l : Launch) (D : va_G) (cy : Nat → ClassId) (sz : Nat) (h0 : Nat) : Met l yX0_init wsX0_init ({ frames := 1, cells := 1, slots := 6, locals := 24 } : Room) (va_Pc [.ref h0] (cpre D cy [(h0, .inr (0, [.int 0, .int 0, .null]))] sz)) (va_Qv (q_X0_init cy h0) (cpost D (va_A [(h0, .inr (0, [.int 0, .int 0, .null]))] sz)) (va_A [(h0, .inr (0, [.int 0, .int 0, .null]))] sz)) 1 6 (va_A [(h0, .inr (0, [.int 0, .int 0, .null]))] sz) := by
  refine Met.ofW (cc := cX0_init) (maxL := 1) (ret := none) (by decide) rfl ?_
  intro p e s m args below meth c s₁ B hml hv
  obtain ⟨rfl, hsz, hP, hD0, hX⟩ := hv
  have hx := B.exec
  have hb := B.bytes
  have hr := B.returns
  have hts := atoms_spec (ws := wsX0_init) B.pre
  have hown : s.vm.findClass RX0 = some m.cls := findClass_of_methodNamed B.named
  have hlocks := B.notSynchronized
  have hin : meth.name = "<init>" := (name_of_methodNamed B.named B.method).1
  subst hsz
  have hD := hD0.self (sz := s.heap.size)
  generalize hAe : va_A [(h0, .inr (0, [.int 0, .int 0, .null]))] s.heap.size = A at hD hX ⊢
  have hA : ∀ q : Nat, s.heap.size ≤ q → A q := fun q h => by rw [← hAe]; exact Or.inr h
  obtain ⟨H, hH⟩ : ∃ H : Heap, H = s.heap := ⟨_, rfl⟩
  have hS : va_S A s.heap H [] := hH ▸ va_S.rf
  have hK := hX.1
  have hP : va_P D vwCl [(h0, .inr (0, [.int 0, .int 0, .null]))] H := hH ▸ hP
  rw [← hH]
  have hw_X0 : ∀ w ∈ wsX00, w ∈ wsX0_init := by decide +kernel
  have m_3 := hts (.methodLink RX0 3 objectInit) (by decide +kernel)
  have oi_i := hts (.instanceMethod objectInit) (by decide +kernel)
  have oi_c := hts (.code objectInit ⟨#[0xb1]⟩ 1 none) (by decide +kernel)
  have f_9 := hts (.fieldLink RX0 9 "CubeTower$Cube" "sorts" "I") (by decide +kernel)
  have ac_I := hts (.arrayClass .int) (by decide +kernel)
  have f_15 := hts (.fieldLink RX0 15 "CubeTower$Cube" "colours" "[I") (by decide +kernel)
  have hl := lv_entry ([.ref h0]) (n := 1) (Nat.le_of_ble_eq_true rfl)
  rw [lg_entry_eq]
  generalize (lg_sl ([.ref h0]) ++ List.replicate (1 - (lg_sl ([.ref h0])).length) Slot.unset).toArray = ls at hl ⊢
  have hl : lv_has ls 1 [(0, .ref h0)] := hl
  refine lv_aload_n hx hb dX0_init_0 rfl (lv_at hl 0 rfl) ?_
  refine W.objInit hx hb hown m_3 oi_i oi_c rfl (by rw [hml]; exact hl.1) rfl dX0_init_1 (Nat.le_of_ble_eq_true rfl) (Nat.le_of_ble_eq_true rfl) ?_
  refine W.eq (g2 := F0 m 4 ls []) rfl ?_
  refine lv_aload_n hx hb dX0_init_4 rfl (lv_at hl 0 rfl) ?_
  refine lv_bipush (v := 31) hx hb dX0_init_5 (by decide) ?_
  refine va_put (D := D) (ci := 0) (v := .int 31) (ty := .int) (C := RX0) (T := TX0) (N := 3) hx hb hts hw_X0 tyX0 tyX0_ok nmX0 hown hK hP hD hS 0 rfl rfl 1 (by decide) f_9 (fun _ h9 => h9) rfl (by decide +kernel) rfl rfl (Nat.le_of_ble_eq_true rfl) dX0_init_7 (fun H locs hP hD hS => ?_)
  have hP : va_P D vwCl [(h0, .inr (0, [.int 0, .int 31, .null]))] H := hP
  have hD : va_D A [(h0, .inr (0, [.int 0, .int 31, .null]))] := hD
  refine lv_aload_n hx hb dX0_init_10 rfl (lv_at hl 0 rfl) ?_
  refine lv_bipush (v := 6) hx hb dX0_init_11 (by decide) ?_
  refine nw_i (N' := 6) hx hb hX ac_I hP hD hS hA (by decide) (by decide) (by decide) (Nat.le_of_ble_eq_true rfl) (Nat.le_of_ble_eq_true rfl) dX0_init_13 (fun q1 H hP hD hS => ?_)
  refine W.widen (k := 1) (n := 6) (Nat.le_of_ble_eq_true rfl) (Nat.le_of_ble_eq_true rfl) ?_
  have hP : va_P D vwCl [(h0, .inr (0, [.int 0, .int 31, .null])), (q1, .inl (cy 0, 6, .inl (fun _ => 0)))] H := hP
  have hD : va_D A [(h0, .inr (0, [.int 0, .int 31, .null])), (q1, .inl (cy 0, 6, .inl (fun _ => 0)))] := hD
  refine va_putF (D := D) (ci := 0) (v := .ref q1) (ty := (.array .int)) (C := RX0) (T := TX0) (N := 3) hx hb hts hw_X0 tyX0 tyX0_ok nmX0 hown hK hP hD hS 0 rfl rfl 2 (by decide) f_15 (fun _ h9 => h9) rfl hin rfl (by decide +kernel) rfl rfl (Nat.le_of_ble_eq_true rfl) dX0_init_15 (fun H locs hP hD hS => ?_)
  have hP : va_P D vwCl [(h0, .inr (0, [.int 0, .int 31, .ref q1])), (q1, .inl (cy 0, 6, .inl (fun _ => 0)))] H := hP
  have hD : va_D A [(h0, .inr (0, [.int 0, .int 31, .ref q1])), (q1, .inl (cy 0, 6, .inl (fun _ => 0)))] := hD
  have hP9 := hP.sub (ws' := [(h0, .inr (0, [.int 0, .int 31, .ref q1])), (q1, .inl (cy 0, 6, .inl (fun _ => 0)))]) [0, 1] rfl
  have hD9 := hD.sub (ws' := [(h0, .inr (0, [.int 0, .int 31, .ref q1])), (q1, .inl (cy 0, 6, .inl (fun _ => 0)))]) [0, 1] (by decide) rfl
  exact W.vret hx hb hr (fun t9 ht9 hW9 => ⟨⟨[(h0, .inr (0, [.int 0, .int 31, .ref q1])), (q1, .inl (cy 0, 6, .inl (fun _ => 0)))], rfl, ⟨q1, rfl⟩, by rw [ht9]; exact hP9, hD9⟩, hS.F ht9⟩) hS.2.2 dX0_init_18
def q_X2_init (cy : Nat → ClassId) (h0 : Nat) : va_W → Prop := fun (u : va_W) => ∃ (ar : Nat), ∃ (c0 : Nat), ∃ (r0 : Nat), ∃ (c1 : Nat), ∃ (r1 : Nat), ∃ (c2 : Nat), ∃ (r2 : Nat), u = [(h0, .inr (2, [.int 0, .int 0, .int 0, .ref ar])), (ar, .inl (cy 2, 3, .inr (.inr (.inr (.inr (va_up (va_up (va_up (fun _ => none) 0 (some c0)) 1 (some c1)) 2 (some c2))))))), (c0, .inr (0, [.int 0, .int 31, .ref r0])), (r0, .inl (cy 0, 6, .inl (fun _ => 0))), (c1, .inr (0, [.int 0, .int 31, .ref r1])), (r1, .inl (cy 0, 6, .inl (fun _ => 0))), (c2, .inr (0, [.int 0, .int 31, .ref r2])), (r2, .inl (cy 0, 6, .inl (fun _ => 0)))]
set_option maxHeartbeats 4000000 in
set_option maxRecDepth 100000 in
theorem c_X2_init (l : Launch) (D : va_G) (cy : Nat → ClassId) (sz : Nat) (h0 : Nat) : Met l yX2_init wsX2_init ({ frames := 2, cells := 7, slots := 30, locals := 44 } : Room) (va_Pc [.ref h0] (cpre D cy [(h0, .inr (2, [.int 0, .int 0, .int 0, .null]))] sz)) (va_Qv (q_X2_init cy h0) (cpost D (va_A [(h0, .inr (2, [.int 0, .int 0, .int 0, .null]))] sz)) (va_A [(h0, .inr (2, [.int 0, .int 0, .int 0, .null]))] sz)) 7 30 (va_A [(h0, .inr (2, [.int 0, .int 0, .int 0, .null]))] sz) := by
  refine Met.ofW (cc := cX2_init) (maxL := 1) (ret := none) (by decide) rfl ?_
  intro p e s m args below meth c s₁ B hml hv
  obtain ⟨rfl, hsz, hP, hD0, hX⟩ := hv
  have hx := B.exec
  have hb := B.bytes
  have hr := B.returns
  have hts := atoms_spec (ws := wsX2_init) B.pre
  have hown : s.vm.findClass RX2 = some m.cls := findClass_of_methodNamed B.named
  have hlocks := B.notSynchronized
  have hin : meth.name = "<init>" := (name_of_methodNamed B.named B.method).1
  subst hsz
  have hD := hD0.self (sz := s.heap.size)
  generalize hAe : va_A [(h0, .inr (2, [.int 0, .int 0, .int 0, .null]))] s.heap.size = A at hD hX ⊢
  have hA : ∀ q : Nat, s.heap.size ≤ q → A q := fun q h => by rw [← hAe]; exact Or.inr h
  obtain ⟨H, hH⟩ : ∃ H : Heap, H = s.heap := ⟨_, rfl⟩
  have hS : va_S A s.heap H [] := hH ▸ va_S.rf
  have hK := hX.1
  have hP : va_P D vwCl [(h0, .inr (2, [.int 0, .int 0, .int 0, .null]))] H := hH ▸ hP
  rw [← hH]
  have hw_X0 : ∀ w ∈ wsX00, w ∈ wsX2_init := by decide +kernel
  have hw_X2 : ∀ w ∈ wsX20, w ∈ wsX2_init := by decide +kernel
  have m_3 := hts (.methodLink RX2 3 objectInit) (by decide +kernel)
  have oi_i := hts (.instanceMethod objectInit) (by decide +kernel)
  have oi_c := hts (.code objectInit ⟨#[0xb1]⟩ 1 none) (by decide +kernel)
  have cl_9 := hts (.classLink RX2 9 RX0) (by decide +kernel)
  have ins_X0 := hts (.instantiable RX0 3) (by decide +kernel)
  have ini_X0 := hts (.initialized RX0) (by decide +kernel)
  have im_X0_init := hts (.instanceMethod yX0_init) (by decide +kernel)
  have f_12 := hts (.fieldLink RX2 12 "CubeTower$Tower" "cubes" "[LCubeTower$Cube;") (by decide +kernel)
  have hl := lv_entry ([.ref h0]) (n := 1) (Nat.le_of_ble_eq_true rfl)
  rw [lg_entry_eq]
  generalize (lg_sl ([.ref h0]) ++ List.replicate (1 - (lg_sl ([.ref h0])).length) Slot.unset).toArray = ls at hl ⊢
  have hl : lv_has ls 1 [(0, .ref h0)] := hl
  refine lv_aload_n hx hb dX2_init_0 rfl (lv_at hl 0 rfl) ?_
  refine W.objInit hx hb hown m_3 oi_i oi_c rfl (by rw [hml]; exact hl.1) rfl dX2_init_1 (Nat.le_of_ble_eq_true rfl) (Nat.le_of_ble_eq_true rfl) ?_
  refine W.eq (g2 := F0 m 4 ls []) rfl ?_
  refine lv_aload_n hx hb dX2_init_4 rfl (lv_at hl 0 rfl) ?_
  refine lv_iconst (v := 3) hx hb dX2_init_5 (by decide) ?_
  refine nw_q (N' := 3) hx hb hX 2 rfl hown cl_9 hX.2.2.2.1 hP hD hS hA (by decide) (by decide) (by decide) (Nat.le_of_ble_eq_true rfl) (Nat.le_of_ble_eq_true rfl) dX2_init_6 (fun q1 H hP hD hS => ?_)
  refine W.widen (k := 1) (n := 3) (Nat.le_of_ble_eq_true rfl) (Nat.le_of_ble_eq_true rfl) ?_
  have hP : va_P D vwCl [(h0, .inr (2, [.int 0, .int 0, .int 0, .null])), (q1, .inl (cy 2, 3, .inr (.inr (.inr (.inr (fun _ => none))))))] H := hP
  have hD : va_D A [(h0, .inr (2, [.int 0, .int 0, .int 0, .null])), (q1, .inl (cy 2, 3, .inr (.inr (.inr (.inr (fun _ => none))))))] := hD
  refine lv_dup hx hb dX2_init_9 rfl ?_
  refine lv_iconst (v := 0) hx hb dX2_init_10 (by decide) ?_
  refine va_new (ci := 0) (fs := [.int 0, .int 0, .null]) (C := RX0) (T := TX0) (N := 3) hx hb hts hw_X0 tyX0 tyX0_ok hown cl_9 ins_X0 ini_X0 hK hP hD hS hA rfl (fun j hj => by rcases (show j = 0 ∨ j = 1 ∨ j = 2 by omega) with rfl | rfl | rfl <;> rfl) (Nat.le_of_ble_eq_true rfl) (Nat.le_of_ble_eq_true rfl) dX2_init_11 (fun q2 H hP hD hS => ?_)
  refine W.widen (k := 2) (n := 6) (Nat.le_of_ble_eq_true rfl) (Nat.le_of_ble_eq_true rfl) ?_
  have hP : va_P D vwCl [(h0, .inr (2, [.int 0, .int 0, .int 0, .null])), (q1, .inl (cy 2, 3, .inr (.inr (.inr (.inr (fun _ => none)))))), (q2, .inr (0, [.int 0, .int 0, .null]))] H := hP
  have hD : va_D A [(h0, .inr (2, [.int 0, .int 0, .int 0, .null])), (q1, .inl (cy 2, 3, .inr (.inr (.inr (.inr (fun _ => none)))))), (q2, .inr (0, [.int 0, .int 0, .null]))] := hD
  refine lv_dup hx hb dX2_init_14 rfl ?_
  refine kc_v (wc := [(q2, .inr (0, [.int 0, .int 0, .null]))]) (wr := [(h0, .inr (2, [.int 0, .int 0, .int 0, .null])), (q1, .inl (cy 2, 3, .inr (.inr (.inr (.inr (fun _ => none))))))]) (va_runIN (As := []) (rest := [.ref q2, .int 0, .ref q1, .ref q1, .ref h0]) ⟨hx, hb, hml, hown, hts⟩ (c_X0_init l D cy H.size q2 ) ⟨va_cnB 0 hts gX2_init_X0_init_n11 rfl rfl rfl hX.2.2.1.2.1 ini_X0 (by decide +kernel) ⟨Nat.le_of_ble_eq_true rfl, Nat.le_of_ble_eq_true rfl⟩, rfl, im_X0_init⟩ (cpre_S (wc := [(q2, .inr (0, [.int 0, .int 0, .null]))]) hX hP hD hS hA [2] (by decide) rfl) rfl rfl hl.1 rfl (lv_room (Nat.le_of_ble_eq_true rfl)) dX2_init_15 ⟨Nat.le_of_ble_eq_true rfl, Nat.le_of_ble_eq_true rfl⟩) hP hD hS hA [2] [0, 1] rfl rfl (by decide) (by decide) (fun u4 H locs hw hP hD hS => ?_)
  obtain ⟨qa5, hu⟩ := hw
  subst hu
  refine W.widen (k := 3) (n := 12) (Nat.le_of_ble_eq_true rfl) (Nat.le_of_ble_eq_true rfl) ?_
  have hP : va_P D vwCl [(h0, .inr (2, [.int 0, .int 0, .int 0, .null])), (q1, .inl (cy 2, 3, .inr (.inr (.inr (.inr (fun _ => none)))))), (q2, .inr (0, [.int 0, .int 31, .ref qa5])), (qa5, .inl (cy 0, 6, .inl (fun _ => 0)))] H := hP
  have hD : va_D A [(h0, .inr (2, [.int 0, .int 0, .int 0, .null])), (q1, .inl (cy 2, 3, .inr (.inr (.inr (.inr (fun _ => none)))))), (q2, .inr (0, [.int 0, .int 31, .ref qa5])), (qa5, .inl (cy 0, 6, .inl (fun _ => 0)))] := hD
  refine va_astq hx hb hK hP hD hS 1 2 2 0 rfl rfl rfl rfl (vi_c (by decide +kernel)) dX2_init_18 (fun H locs hP hD hS => ?_)
  have hP : va_P D vwCl [(h0, .inr (2, [.int 0, .int 0, .int 0, .null])), (q1, .inl (cy 2, 3, .inr (.inr (.inr (.inr (va_up (fun _ => none) (0 : Int32).toNatClampNeg (some q2))))))), (q2, .inr (0, [.int 0, .int 31, .ref qa5])), (qa5, .inl (cy 0, 6, .inl (fun _ => 0)))] H := hP
  have hD : va_D A [(h0, .inr (2, [.int 0, .int 0, .int 0, .null])), (q1, .inl (cy 2, 3, .inr (.inr (.inr (.inr (va_up (fun _ => none) (0 : Int32).toNatClampNeg (some q2))))))), (q2, .inr (0, [.int 0, .int 31, .ref qa5])), (qa5, .inl (cy 0, 6, .inl (fun _ => 0)))] := hD
  have hP : va_P D vwCl [(h0, .inr (2, [.int 0, .int 0, .int 0, .null])), (q1, .inl (cy 2, 3, .inr (.inr (.inr (.inr (va_up (fun _ => none) 0 (some q2))))))), (q2, .inr (0, [.int 0, .int 31, .ref qa5])), (qa5, .inl (cy 0, 6, .inl (fun _ => 0)))] H := hP
  have hD : va_D A [(h0, .inr (2, [.int 0, .int 0, .int 0, .null])), (q1, .inl (cy 2, 3, .inr (.inr (.inr (.inr (va_up (fun _ => none) 0 (some q2))))))), (q2, .inr (0, [.int 0, .int 31, .ref qa5])), (qa5, .inl (cy 0, 6, .inl (fun _ => 0)))] := hD
  refine lv_dup hx hb dX2_init_19 rfl ?_
  refine lv_iconst (v := 1) hx hb dX2_init_20 (by decide) ?_
  refine va_new (ci := 0) (fs := [.int 0, .int 0, .null]) (C := RX0) (T := TX0) (N := 3) hx hb hts hw_X0 tyX0 tyX0_ok hown cl_9 ins_X0 ini_X0 hK hP hD hS hA rfl (fun j hj => by rcases (show j = 0 ∨ j = 1 ∨ j = 2 by omega) with rfl | rfl | rfl <;> rfl) (Nat.le_of_ble_eq_true rfl) (Nat.le_of_ble_eq_true rfl) dX2_init_21 (fun q6 H hP hD hS => ?_)
  refine W.widen (k := 4) (n := 15) (Nat.le_of_ble_eq_true rfl) (Nat.le_of_ble_eq_true rfl) ?_
  have hP : va_P D vwCl [(h0, .inr (2, [.int 0, .int 0, .int 0, .null])), (q1, .inl (cy 2, 3, .inr (.inr (.inr (.inr (va_up (fun _ => none) 0 (some q2))))))), (q2, .inr (0, [.int 0, .int 31, .ref qa5])), (qa5, .inl (cy 0, 6, .inl (fun _ => 0))), (q6, .inr (0, [.int 0, .int 0, .null]))] H := hP
  have hD : va_D A [(h0, .inr (2, [.int 0, .int 0, .int 0, .null])), (q1, .inl (cy 2, 3, .inr (.inr (.inr (.inr (va_up (fun _ => none) 0 (some q2))))))), (q2, .inr (0, [.int 0, .int 31, .ref qa5])), (qa5, .inl (cy 0, 6, .inl (fun _ => 0))), (q6, .inr (0, [.int 0, .int 0, .null]))] := hD
  refine lv_dup hx hb dX2_init_24 rfl ?_
  refine kc_v (wc := [(q6, .inr (0, [.int 0, .int 0, .null]))]) (wr := [(h0, .inr (2, [.int 0, .int 0, .int 0, .null])), (q1, .inl (cy 2, 3, .inr (.inr (.inr (.inr (va_up (fun _ => none) 0 (some q2))))))), (q2, .inr (0, [.int 0, .int 31, .ref qa5])), (qa5, .inl (cy 0, 6, .inl (fun _ => 0)))]) (va_runIN (As := []) (rest := [.ref q6, .int 1, .ref q1, .ref q1, .ref h0]) ⟨hx, hb, hml, hown, hts⟩ (c_X0_init l D cy H.size q6 ) ⟨va_cnB 0 hts gX2_init_X0_init_n11 rfl rfl rfl hX.2.2.1.2.1 ini_X0 (by decide +kernel) ⟨Nat.le_of_ble_eq_true rfl, Nat.le_of_ble_eq_true rfl⟩, rfl, im_X0_init⟩ (cpre_S (wc := [(q6, .inr (0, [.int 0, .int 0, .null]))]) hX hP hD hS hA [4] (by decide) rfl) rfl rfl hl.1 rfl (lv_room (Nat.le_of_ble_eq_true rfl)) dX2_init_25 ⟨Nat.le_of_ble_eq_true rfl, Nat.le_of_ble_eq_true rfl⟩) hP hD hS hA [4] [0, 1, 2, 3] rfl rfl (by decide) (by decide) (fun u8 H locs hw hP hD hS => ?_)
  obtain ⟨qa9, hu⟩ := hw
  subst hu
  refine W.widen (k := 5) (n := 21) (Nat.le_of_ble_eq_true rfl) (Nat.le_of_ble_eq_true rfl) ?_
  have hP : va_P D vwCl [(h0, .inr (2, [.int 0, .int 0, .int 0, .null])), (q1, .inl (cy 2, 3, .inr (.inr (.inr (.inr (va_up (fun _ => none) 0 (some q2))))))), (q2, .inr (0, [.int 0, .int 31, .ref qa5])), (qa5, .inl (cy 0, 6, .inl (fun _ => 0))), (q6, .inr (0, [.int 0, .int 31, .ref qa9])), (qa9, .inl (cy 0, 6, .inl (fun _ => 0)))] H := hP
  have hD : va_D A [(h0, .inr (2, [.int 0, .int 0, .int 0, .null])), (q1, .inl (cy 2, 3, .inr (.inr (.inr (.inr (va_up (fun _ => none) 0 (some q2))))))), (q2, .inr (0, [.int 0, .int 31, .ref qa5])), (qa5, .inl (cy 0, 6, .inl (fun _ => 0))), (q6, .inr (0, [.int 0, .int 31, .ref qa9])), (qa9, .inl (cy 0, 6, .inl (fun _ => 0)))] := hD
  refine va_astq hx hb hK hP hD hS 1 2 4 0 rfl rfl rfl rfl (vi_c (by decide +kernel)) dX2_init_28 (fun H locs hP hD hS => ?_)
  have hP : va_P D vwCl [(h0, .inr (2, [.int 0, .int 0, .int 0, .null])), (q1, .inl (cy 2, 3, .inr (.inr (.inr (.inr (va_up (va_up (fun _ => none) 0 (some q2)) (1 : Int32).toNatClampNeg (some q6))))))), (q2, .inr (0, [.int 0, .int 31, .ref qa5])), (qa5, .inl (cy 0, 6, .inl (fun _ => 0))), (q6, .inr (0, [.int 0, .int 31, .ref qa9])), (qa9, .inl (cy 0, 6, .inl (fun _ => 0)))] H := hP
  have hD : va_D A [(h0, .inr (2, [.int 0, .int 0, .int 0, .null])), (q1, .inl (cy 2, 3, .inr (.inr (.inr (.inr (va_up (va_up (fun _ => none) 0 (some q2)) (1 : Int32).toNatClampNeg (some q6))))))), (q2, .inr (0, [.int 0, .int 31, .ref qa5])), (qa5, .inl (cy 0, 6, .inl (fun _ => 0))), (q6, .inr (0, [.int 0, .int 31, .ref qa9])), (qa9, .inl (cy 0, 6, .inl (fun _ => 0)))] := hD
  have hP : va_P D vwCl [(h0, .inr (2, [.int 0, .int 0, .int 0, .null])), (q1, .inl (cy 2, 3, .inr (.inr (.inr (.inr (va_up (va_up (fun _ => none) 0 (some q2)) 1 (some q6))))))), (q2, .inr (0, [.int 0, .int 31, .ref qa5])), (qa5, .inl (cy 0, 6, .inl (fun _ => 0))), (q6, .inr (0, [.int 0, .int 31, .ref qa9])), (qa9, .inl (cy 0, 6, .inl (fun _ => 0)))] H := hP
  have hD : va_D A [(h0, .inr (2, [.int 0, .int 0, .int 0, .null])), (q1, .inl (cy 2, 3, .inr (.inr (.inr (.inr (va_up (va_up (fun _ => none) 0 (some q2)) 1 (some q6))))))), (q2, .inr (0, [.int 0, .int 31, .ref qa5])), (qa5, .inl (cy 0, 6, .inl (fun _ => 0))), (q6, .inr (0, [.int 0, .int 31, .ref qa9])), (qa9, .inl (cy 0, 6, .inl (fun _ => 0)))] := hD
  refine lv_dup hx hb dX2_init_29 rfl ?_
  refine lv_iconst (v := 2) hx hb dX2_init_30 (by decide) ?_
  refine va_new (ci := 0) (fs := [.int 0, .int 0, .null]) (C := RX0) (T := TX0) (N := 3) hx hb hts hw_X0 tyX0 tyX0_ok hown cl_9 ins_X0 ini_X0 hK hP hD hS hA rfl (fun j hj => by rcases (show j = 0 ∨ j = 1 ∨ j = 2 by omega) with rfl | rfl | rfl <;> rfl) (Nat.le_of_ble_eq_true rfl) (Nat.le_of_ble_eq_true rfl) dX2_init_31 (fun q10 H hP hD hS => ?_)
  refine W.widen (k := 6) (n := 24) (Nat.le_of_ble_eq_true rfl) (Nat.le_of_ble_eq_true rfl) ?_
  have hP : va_P D vwCl [(h0, .inr (2, [.int 0, .int 0, .int 0, .null])), (q1, .inl (cy 2, 3, .inr (.inr (.inr (.inr (va_up (va_up (fun _ => none) 0 (some q2)) 1 (some q6))))))), (q2, .inr (0, [.int 0, .int 31, .ref qa5])), (qa5, .inl (cy 0, 6, .inl (fun _ => 0))), (q6, .inr (0, [.int 0, .int 31, .ref qa9])), (qa9, .inl (cy 0, 6, .inl (fun _ => 0))), (q10, .inr (0, [.int 0, .int 0, .null]))] H := hP
  have hD : va_D A [(h0, .inr (2, [.int 0, .int 0, .int 0, .null])), (q1, .inl (cy 2, 3, .inr (.inr (.inr (.inr (va_up (va_up (fun _ => none) 0 (some q2)) 1 (some q6))))))), (q2, .inr (0, [.int 0, .int 31, .ref qa5])), (qa5, .inl (cy 0, 6, .inl (fun _ => 0))), (q6, .inr (0, [.int 0, .int 31, .ref qa9])), (qa9, .inl (cy 0, 6, .inl (fun _ => 0))), (q10, .inr (0, [.int 0, .int 0, .null]))] := hD
  refine lv_dup hx hb dX2_init_34 rfl ?_
  refine kc_v (wc := [(q10, .inr (0, [.int 0, .int 0, .null]))]) (wr := [(h0, .inr (2, [.int 0, .int 0, .int 0, .null])), (q1, .inl (cy 2, 3, .inr (.inr (.inr (.inr (va_up (va_up (fun _ => none) 0 (some q2)) 1 (some q6))))))), (q2, .inr (0, [.int 0, .int 31, .ref qa5])), (qa5, .inl (cy 0, 6, .inl (fun _ => 0))), (q6, .inr (0, [.int 0, .int 31, .ref qa9])), (qa9, .inl (cy 0, 6, .inl (fun _ => 0)))]) (va_runIN (As := []) (rest := [.ref q10, .int 2, .ref q1, .ref q1, .ref h0]) ⟨hx, hb, hml, hown, hts⟩ (c_X0_init l D cy H.size q10 ) ⟨va_cnB 0 hts gX2_init_X0_init_n11 rfl rfl rfl hX.2.2.1.2.1 ini_X0 (by decide +kernel) ⟨Nat.le_of_ble_eq_true rfl, Nat.le_of_ble_eq_true rfl⟩, rfl, im_X0_init⟩ (cpre_S (wc := [(q10, .inr (0, [.int 0, .int 0, .null]))]) hX hP hD hS hA [6] (by decide) rfl) rfl rfl hl.1 rfl (lv_room (Nat.le_of_ble_eq_true rfl)) dX2_init_35 ⟨Nat.le_of_ble_eq_true rfl, Nat.le_of_ble_eq_true rfl⟩) hP hD hS hA [6] [0, 1, 2, 3, 4, 5] rfl rfl (by decide) (by decide) (fun u12 H locs hw hP hD hS => ?_)
  obtain ⟨qa13, hu⟩ := hw
  subst hu
  refine W.widen (k := 7) (n := 30) (Nat.le_of_ble_eq_true rfl) (Nat.le_of_ble_eq_true rfl) ?_
  have hP : va_P D vwCl [(h0, .inr (2, [.int 0, .int 0, .int 0, .null])), (q1, .inl (cy 2, 3, .inr (.inr (.inr (.inr (va_up (va_up (fun _ => none) 0 (some q2)) 1 (some q6))))))), (q2, .inr (0, [.int 0, .int 31, .ref qa5])), (qa5, .inl (cy 0, 6, .inl (fun _ => 0))), (q6, .inr (0, [.int 0, .int 31, .ref qa9])), (qa9, .inl (cy 0, 6, .inl (fun _ => 0))), (q10, .inr (0, [.int 0, .int 31, .ref qa13])), (qa13, .inl (cy 0, 6, .inl (fun _ => 0)))] H := hP
  have hD : va_D A [(h0, .inr (2, [.int 0, .int 0, .int 0, .null])), (q1, .inl (cy 2, 3, .inr (.inr (.inr (.inr (va_up (va_up (fun _ => none) 0 (some q2)) 1 (some q6))))))), (q2, .inr (0, [.int 0, .int 31, .ref qa5])), (qa5, .inl (cy 0, 6, .inl (fun _ => 0))), (q6, .inr (0, [.int 0, .int 31, .ref qa9])), (qa9, .inl (cy 0, 6, .inl (fun _ => 0))), (q10, .inr (0, [.int 0, .int 31, .ref qa13])), (qa13, .inl (cy 0, 6, .inl (fun _ => 0)))] := hD
  refine va_astq hx hb hK hP hD hS 1 2 6 0 rfl rfl rfl rfl (vi_c (by decide +kernel)) dX2_init_38 (fun H locs hP hD hS => ?_)
  have hP : va_P D vwCl [(h0, .inr (2, [.int 0, .int 0, .int 0, .null])), (q1, .inl (cy 2, 3, .inr (.inr (.inr (.inr (va_up (va_up (va_up (fun _ => none) 0 (some q2)) 1 (some q6)) (2 : Int32).toNatClampNeg (some q10))))))), (q2, .inr (0, [.int 0, .int 31, .ref qa5])), (qa5, .inl (cy 0, 6, .inl (fun _ => 0))), (q6, .inr (0, [.int 0, .int 31, .ref qa9])), (qa9, .inl (cy 0, 6, .inl (fun _ => 0))), (q10, .inr (0, [.int 0, .int 31, .ref qa13])), (qa13, .inl (cy 0, 6, .inl (fun _ => 0)))] H := hP
  have hD : va_D A [(h0, .inr (2, [.int 0, .int 0, .int 0, .null])), (q1, .inl (cy 2, 3, .inr (.inr (.inr (.inr (va_up (va_up (va_up (fun _ => none) 0 (some q2)) 1 (some q6)) (2 : Int32).toNatClampNeg (some q10))))))), (q2, .inr (0, [.int 0, .int 31, .ref qa5])), (qa5, .inl (cy 0, 6, .inl (fun _ => 0))), (q6, .inr (0, [.int 0, .int 31, .ref qa9])), (qa9, .inl (cy 0, 6, .inl (fun _ => 0))), (q10, .inr (0, [.int 0, .int 31, .ref qa13])), (qa13, .inl (cy 0, 6, .inl (fun _ => 0)))] := hD
  have hP : va_P D vwCl [(h0, .inr (2, [.int 0, .int 0, .int 0, .null])), (q1, .inl (cy 2, 3, .inr (.inr (.inr (.inr (va_up (va_up (va_up (fun _ => none) 0 (some q2)) 1 (some q6)) 2 (some q10))))))), (q2, .inr (0, [.int 0, .int 31, .ref qa5])), (qa5, .inl (cy 0, 6, .inl (fun _ => 0))), (q6, .inr (0, [.int 0, .int 31, .ref qa9])), (qa9, .inl (cy 0, 6, .inl (fun _ => 0))), (q10, .inr (0, [.int 0, .int 31, .ref qa13])), (qa13, .inl (cy 0, 6, .inl (fun _ => 0)))] H := hP
  have hD : va_D A [(h0, .inr (2, [.int 0, .int 0, .int 0, .null])), (q1, .inl (cy 2, 3, .inr (.inr (.inr (.inr (va_up (va_up (va_up (fun _ => none) 0 (some q2)) 1 (some q6)) 2 (some q10))))))), (q2, .inr (0, [.int 0, .int 31, .ref qa5])), (qa5, .inl (cy 0, 6, .inl (fun _ => 0))), (q6, .inr (0, [.int 0, .int 31, .ref qa9])), (qa9, .inl (cy 0, 6, .inl (fun _ => 0))), (q10, .inr (0, [.int 0, .int 31, .ref qa13])), (qa13, .inl (cy 0, 6, .inl (fun _ => 0)))] := hD
  refine va_putF (D := D) (ci := 2) (v := .ref q1) (ty := (.array (.object "CubeTower$Cube"))) (C := RX2) (T := TX2) (N := 4) hx hb hts hw_X2 tyX2 tyX2_ok nmX2 hown hK hP hD hS 0 rfl rfl 3 (by decide) f_12 (fun _ h9 => h9) rfl hin rfl (by decide +kernel) rfl rfl (Nat.le_of_ble_eq_true rfl) dX2_init_39 (fun H locs hP hD hS => ?_)
  have hP : va_P D vwCl [(h0, .inr (2, [.int 0, .int 0, .int 0, .ref q1])), (q1, .inl (cy 2, 3, .inr (.inr (.inr (.inr (va_up (va_up (va_up (fun _ => none) 0 (some q2)) 1 (some q6)) 2 (some q10))))))), (q2, .inr (0, [.int 0, .int 31, .ref qa5])), (qa5, .inl (cy 0, 6, .inl (fun _ => 0))), (q6, .inr (0, [.int 0, .int 31, .ref qa9])), (qa9, .inl (cy 0, 6, .inl (fun _ => 0))), (q10, .inr (0, [.int 0, .int 31, .ref qa13])), (qa13, .inl (cy 0, 6, .inl (fun _ => 0)))] H := hP
  have hD : va_D A [(h0, .inr (2, [.int 0, .int 0, .int 0, .ref q1])), (q1, .inl (cy 2, 3, .inr (.inr (.inr (.inr (va_up (va_up (va_up (fun _ => none) 0 (some q2)) 1 (some q6)) 2 (some q10))))))), (q2, .inr (0, [.int 0, .int 31, .ref qa5])), (qa5, .inl (cy 0, 6, .inl (fun _ => 0))), (q6, .inr (0, [.int 0, .int 31, .ref qa9])), (qa9, .inl (cy 0, 6, .inl (fun _ => 0))), (q10, .inr (0, [.int 0, .int 31, .ref qa13])), (qa13, .inl (cy 0, 6, .inl (fun _ => 0)))] := hD
  have hP9 := hP.sub (ws' := [(h0, .inr (2, [.int 0, .int 0, .int 0, .ref q1])), (q1, .inl (cy 2, 3, .inr (.inr (.inr (.inr (va_up (va_up (va_up (fun _ => none) 0 (some q2)) 1 (some q6)) 2 (some q10))))))), (q2, .inr (0, [.int 0, .int 31, .ref qa5])), (qa5, .inl (cy 0, 6, .inl (fun _ => 0))), (q6, .inr (0, [.int 0, .int 31, .ref qa9])), (qa9, .inl (cy 0, 6, .inl (fun _ => 0))), (q10, .inr (0, [.int 0, .int 31, .ref qa13])), (qa13, .inl (cy 0, 6, .inl (fun _ => 0)))]) [0, 1, 2, 3, 4, 5, 6, 7] rfl
  have hD9 := hD.sub (ws' := [(h0, .inr (2, [.int 0, .int 0, .int 0, .ref q1])), (q1, .inl (cy 2, 3, .inr (.inr (.inr (.inr (va_up (va_up (va_up (fun _ => none) 0 (some q2)) 1 (some q6)) 2 (some q10))))))), (q2, .inr (0, [.int 0, .int 31, .ref qa5])), (qa5, .inl (cy 0, 6, .inl (fun _ => 0))), (q6, .inr (0, [.int 0, .int 31, .ref qa9])), (qa9, .inl (cy 0, 6, .inl (fun _ => 0))), (q10, .inr (0, [.int 0, .int 31, .ref qa13])), (qa13, .inl (cy 0, 6, .inl (fun _ => 0)))]) [0, 1, 2, 3, 4, 5, 6, 7] (by decide) rfl
  exact W.vret hx hb hr (fun t9 ht9 hW9 => ⟨⟨[(h0, .inr (2, [.int 0, .int 0, .int 0, .ref q1])), (q1, .inl (cy 2, 3, .inr (.inr (.inr (.inr (va_up (va_up (va_up (fun _ => none) 0 (some q2)) 1 (some q6)) 2 (some q10))))))), (q2, .inr (0, [.int 0, .int 31, .ref qa5])), (qa5, .inl (cy 0, 6, .inl (fun _ => 0))), (q6, .inr (0, [.int 0, .int 31, .ref qa9])), (qa9, .inl (cy 0, 6, .inl (fun _ => 0))), (q10, .inr (0, [.int 0, .int 31, .ref qa13])), (qa13, .inl (cy 0, 6, .inl (fun _ => 0)))], rfl, ⟨q1, q2, qa5, q6, qa9, q10, qa13, rfl⟩, by rw [ht9]; exact hP9, hD9⟩, hS.F ht9⟩) hS.2.2 dX2_init_42
end
section
def q_X1_init (cy : Nat → ClassId) (h0 : Nat) : va_W → Prop := fun (u : va_W) => ∃ (wk : Nat), ∃ (wc : Nat), ∃ (wl : Nat), ∃ (l0 : Nat), ∃ (l1 : Nat), ∃ (l2 : Nat), ∃ (pr : Nat), ∃ (o0 : Nat), ∃ (a0 : Nat), ∃ (b0 : Nat), ∃ (d0 : Nat), ∃ (z0 : Nat), ∃ (f0 : Nat → Int32), ∃ (g0 : Nat → Int32), ∃ (y0 : Nat → Int32), ∃ (o1 : Nat), ∃ (a1 : Nat), ∃ (b1 : Nat), ∃ (d1 : Nat), ∃ (z1 : Nat), ∃ (f1 : Nat → Int32), ∃ (g1 : Nat → Int32), ∃ (y1 : Nat → Int32), ∃ (o2 : Nat), ∃ (a2 : Nat), ∃ (b2 : Nat), ∃ (d2 : Nat), ∃ (z2 : Nat), ∃ (f2 : Nat → Int32), ∃ (g2 : Nat → Int32), ∃ (y2 : Nat → Int32), ∃ (o3 : Nat), ∃ (a3 : Nat), ∃ (b3 : Nat), ∃ (d3 : Nat), ∃ (z3 : Nat), ∃ (f3 : Nat → Int32), ∃ (g3 : Nat → Int32), ∃ (y3 : Nat → Int32), ∃ (o4 : Nat), ∃ (a4 : Nat), ∃ (b4 : Nat), ∃ (d4 : Nat), ∃ (z4 : Nat), ∃ (f4 : Nat → Int32), ∃ (g4 : Nat → Int32), ∃ (y4 : Nat → Int32), u = [(h0, .inr (1, [.ref wk, .ref wc, .ref wl, .ref pr, .int 0, .int 0, .int 0, .int 0, .int 0])), (wk, .inl (cy 3, 5, .inr (.inr (.inr (.inr (va_up (va_up (va_up (va_up (va_up (fun _ => none) 0 (some o0)) 1 (some o1)) 2 (some o2)) 3 (some o3)) 4 (some o4))))))), (o0, .inr (3, [.int (nI z0), .ref a0, .ref b0, .ref d0])), (a0, .inl (cy 0, 150, .inl f0)), (b0, .inl (cy 0, 24, .inl g0)), (d0, .inl (cy 0, 24, .inl y0)), (o1, .inr (3, [.int (nI z1), .ref a1, .ref b1, .ref d1])), (a1, .inl (cy 0, 150, .inl f1)), (b1, .inl (cy 0, 24, .inl g1)), (d1, .inl (cy 0, 24, .inl y1)), (o2, .inr (3, [.int (nI z2), .ref a2, .ref b2, .ref d2])), (a2, .inl (cy 0, 150, .inl f2)), (b2, .inl (cy 0, 24, .inl g2)), (d2, .inl (cy 0, 24, .inl y2)), (o3, .inr (3, [.int (nI z3), .ref a3, .ref b3, .ref d3])), (a3, .inl (cy 0, 150, .inl f3)), (b3, .inl (cy 0, 24, .inl g3)), (d3, .inl (cy 0, 24, .inl y3)), (o4, .inr (3, [.int (nI z4), .ref a4, .ref b4, .ref d4])), (a4, .inl (cy 0, 150, .inl f4)), (b4, .inl (cy 0, 24, .inl g4)), (d4, .inl (cy 0, 24, .inl y4)), (wc, .inl (cy 3, 3, .inr (.inr (.inr (.inr (va_up (va_up (va_up (fun _ => none) 0 (some o3)) 1 (some o3)) 2 (some o3))))))), (wl, .inl (cy 4, 3, .inr (.inr (.inr (.inr (va_up (va_up (va_up (fun _ => none) 0 (some l0)) 1 (some l1)) 2 (some l2))))))), (l0, .inl (cy 0, 24, .inl (fun _ => 0))), (l1, .inl (cy 0, 24, .inl (fun _ => 0))), (l2, .inl (cy 0, 24, .inl (fun _ => 0))), (pr, .inl (cy 0, 576, .inl (fun _ => 0)))] ∧ 1 ≤ z0 ∧ z0 ≤ 24 ∧ (∀ j, okv (f0 j)) ∧ 1 ≤ z1 ∧ z1 ≤ 24 ∧ (∀ j, okv (f1 j)) ∧ 1 ≤ z2 ∧ z2 ≤ 24 ∧ (∀ j, okv (f2 j)) ∧ 1 ≤ z3 ∧ z3 ≤ 24 ∧ (∀ j, okv (f3 j)) ∧ 1 ≤ z4 ∧ z4 ≤ 24 ∧ (∀ j, okv (f4 j))
set_option maxHeartbeats 4000000 in
set_option maxRecDepth 100000 in
theorem c_X1_init (l : Launch) (D : va_G) (cy : Nat → ClassId) (sz : Nat) (h0 : Nat) : Met l yX1_init wsX1_init ({ frames := 4, cells := 27, slots := 1669, locals := 91 } : Room) (va_Pc [.ref h0] (cpre D cy [(h0, .inr (1, [.null, .null, .null, .null, .int 0, .int 0, .int 0, .int 0, .int 0]))] sz)) (va_Qv (q_X1_init cy h0) (cpost D (va_A [(h0, .inr (1, [.null, .null, .null, .null, .int 0, .int 0, .int 0, .int 0, .int 0]))] sz)) (va_A [(h0, .inr (1, [.null, .null, .null, .null, .int 0, .int 0, .int 0, .int 0, .int 0]))] sz)) 27 1669 (va_A [(h0, .inr (1, [.null, .null, .null, .null, .int 0, .int 0, .int 0, .int 0, .int 0]))] sz) := by
  refine Met.ofW (cc := cX1_init) (maxL := 1) (ret := none) (by decide) rfl ?_
  intro p e s m args below meth c s₁ B hml hv
  obtain ⟨rfl, hsz, hP, hD0, hX⟩ := hv
  have hx := B.exec
  have hb := B.bytes
  have hr := B.returns
  have hts := atoms_spec (ws := wsX1_init) B.pre
  have hown : s.vm.findClass RX1 = some m.cls := findClass_of_methodNamed B.named
  have hlocks := B.notSynchronized
  have hin : meth.name = "<init>" := (name_of_methodNamed B.named B.method).1
  subst hsz
  have hD := hD0.self (sz := s.heap.size)
  generalize hAe : va_A [(h0, .inr (1, [.null, .null, .null, .null, .int 0, .int 0, .int 0, .int 0, .int 0]))] s.heap.size = A at hD hX ⊢
  have hA : ∀ q : Nat, s.heap.size ≤ q → A q := fun q h => by rw [← hAe]; exact Or.inr h
  obtain ⟨H, hH⟩ : ∃ H : Heap, H = s.heap := ⟨_, rfl⟩
  have hS : va_S A s.heap H [] := hH ▸ va_S.rf
  have hK := hX.1
  have hP : va_P D vwCl [(h0, .inr (1, [.null, .null, .null, .null, .int 0, .int 0, .int 0, .int 0, .int 0]))] H := hH ▸ hP
  rw [← hH]
  have hw_X1 : ∀ w ∈ wsX10, w ∈ wsX1_init := by decide +kernel
  have hw_X3 : ∀ w ∈ wsX30, w ∈ wsX1_init := by decide +kernel
  have m_3 := hts (.methodLink RX1 3 objectInit) (by decide +kernel)
  have oi_i := hts (.instanceMethod objectInit) (by decide +kernel)
  have oi_c := hts (.code objectInit ⟨#[0xb1]⟩ 1 none) (by decide +kernel)
  have cl_9 := hts (.classLink RX1 9 RX3) (by decide +kernel)
  have ins_X3 := hts (.instantiable RX3 4) (by decide +kernel)
  have ini_X3 := hts (.initialized RX3) (by decide +kernel)
  have im_X3_init := hts (.instanceMethod yX3_init) (by decide +kernel)
  have m_11 := hts (.methodLink RX1 11 yX3_init) (by decide +kernel)
  have f_14 := hts (.fieldLink RX1 14 "CubeTower$Survey" "waysOfKind" "[LCubeTower$Ways;") (by decide +kernel)
  have f_20 := hts (.fieldLink RX1 20 "CubeTower$Survey" "waysOfCube" "[LCubeTower$Ways;") (by decide +kernel)
  have cl_23 := hts (.classLink RX1 23 "[[I") (by decide +kernel)
  have ac_I := hts (.arrayClass .int) (by decide +kernel)
  have f_25 := hts (.fieldLink RX1 25 "CubeTower$Survey" "walls" "[[I") (by decide +kernel)
  have f_28 := hts (.fieldLink RX1 28 "CubeTower$Survey" "pairs" "[I") (by decide +kernel)
  have hl := lv_entry ([.ref h0]) (n := 1) (Nat.le_of_ble_eq_true rfl)
  rw [lg_entry_eq]
  generalize (lg_sl ([.ref h0]) ++ List.replicate (1 - (lg_sl ([.ref h0])).length) Slot.unset).toArray = ls at hl ⊢
  have hl : lv_has ls 1 [(0, .ref h0)] := hl
  refine lv_aload_n hx hb dX1_init_0 rfl (lv_at hl 0 rfl) ?_
  refine W.objInit hx hb hown m_3 oi_i oi_c rfl (by rw [hml]; exact hl.1) rfl dX1_init_1 (Nat.le_of_ble_eq_true rfl) (Nat.le_of_ble_eq_true rfl) ?_
  refine W.eq (g2 := F0 m 4 ls []) rfl ?_
  refine lv_aload_n hx hb dX1_init_4 rfl (lv_at hl 0 rfl) ?_
  refine lv_iconst (v := 5) hx hb dX1_init_5 (by decide) ?_
  refine nw_q (N' := 5) hx hb hX 3 rfl hown cl_9 hX.2.2.2.2.1 hP hD hS hA (by decide) (by decide) (by decide) (Nat.le_of_ble_eq_true rfl) (Nat.le_of_ble_eq_true rfl) dX1_init_6 (fun q1 H hP hD hS => ?_)
  refine W.widen (k := 1) (n := 5) (Nat.le_of_ble_eq_true rfl) (Nat.le_of_ble_eq_true rfl) ?_
  have hP : va_P D vwCl [(h0, .inr (1, [.null, .null, .null, .null, .int 0, .int 0, .int 0, .int 0, .int 0])), (q1, .inl (cy 3, 5, .inr (.inr (.inr (.inr (fun _ => none))))))] H := hP
  have hD : va_D A [(h0, .inr (1, [.null, .null, .null, .null, .int 0, .int 0, .int 0, .int 0, .int 0])), (q1, .inl (cy 3, 5, .inr (.inr (.inr (.inr (fun _ => none))))))] := hD
  refine lv_dup hx hb dX1_init_9 rfl ?_
  refine lv_iconst (v := 0) hx hb dX1_init_10 (by decide) ?_
  refine va_new (ci := 3) (fs := [.int 0, .null, .null, .null]) (C := RX3) (T := TX3) (N := 4) hx hb hts hw_X3 tyX3 tyX3_ok hown cl_9 ins_X3 ini_X3 hK hP hD hS hA rfl (fun j hj => by rcases (show j = 0 ∨ j = 1 ∨ j = 2 ∨ j = 3 by omega) with rfl | rfl | rfl | rfl <;> rfl) (Nat.le_of_ble_eq_true rfl) (Nat.le_of_ble_eq_true rfl) dX1_init_11 (fun q2 H hP hD hS => ?_)
  refine W.widen (k := 2) (n := 9) (Nat.le_of_ble_eq_true rfl) (Nat.le_of_ble_eq_true rfl) ?_
  have hP : va_P D vwCl [(h0, .inr (1, [.null, .null, .null, .null, .int 0, .int 0, .int 0, .int 0, .int 0])), (q1, .inl (cy 3, 5, .inr (.inr (.inr (.inr (fun _ => none)))))), (q2, .inr (3, [.int 0, .null, .null, .null]))] H := hP
  have hD : va_D A [(h0, .inr (1, [.null, .null, .null, .null, .int 0, .int 0, .int 0, .int 0, .int 0])), (q1, .inl (cy 3, 5, .inr (.inr (.inr (.inr (fun _ => none)))))), (q2, .inr (3, [.int 0, .null, .null, .null]))] := hD
  refine lv_dup hx hb dX1_init_14 rfl ?_
  refine lv_iconst (v := 0) hx hb dX1_init_15 (by decide) ?_
  refine kc_v (wc := [(q2, .inr (3, [.int 0, .null, .null, .null]))]) (wr := [(h0, .inr (1, [.null, .null, .null, .null, .int 0, .int 0, .int 0, .int 0, .int 0])), (q1, .inl (cy 3, 5, .inr (.inr (.inr (.inr (fun _ => none))))))]) (va_runI (As := [.int 0]) (rest := [.ref q2, .int 0, .ref q1, .ref q1, .ref h0]) ⟨hx, hb, hml, hown, hts⟩ (c_X3_init l D cy H.size q2 0 (by decide)) (cwI 1 hts gX1_init_X3_init rfl rfl rfl ini_X3 m_11 im_X3_init rfl (by decide +kernel) ⟨Nat.le_of_ble_eq_true rfl, Nat.le_of_ble_eq_true rfl⟩) (cpre_S (wc := [(q2, .inr (3, [.int 0, .null, .null, .null]))]) hX hP hD hS hA [2] (by decide) rfl) rfl rfl hl.1 rfl (lv_room (Nat.le_of_ble_eq_true rfl)) dX1_init_16 ⟨Nat.le_of_ble_eq_true rfl, Nat.le_of_ble_eq_true rfl⟩) hP hD hS hA [2] [0, 1] rfl rfl (by decide) (by decide) (fun u4 H locs hw hP hD hS => ?_)
  obtain ⟨q1_0, q2_0, q3_0, z_0, f_0, g_0, h_0, hu, ha_0, hb_0, hc_0⟩ := hw
  subst hu
  refine W.widen (k := 5) (n := 207) (Nat.le_of_ble_eq_true rfl) (Nat.le_of_ble_eq_true rfl) ?_
  have hP : va_P D vwCl [(h0, .inr (1, [.null, .null, .null, .null, .int 0, .int 0, .int 0, .int 0, .int 0])), (q1, .inl (cy 3, 5, .inr (.inr (.inr (.inr (fun _ => none)))))), (q2, .inr (3, [.int (nI z_0), .ref q1_0, .ref q2_0, .ref q3_0])), (q1_0, .inl (cy 0, 150, .inl f_0)), (q2_0, .inl (cy 0, 24, .inl g_0)), (q3_0, .inl (cy 0, 24, .inl h_0))] H := hP
  have hD : va_D A [(h0, .inr (1, [.null, .null, .null, .null, .int 0, .int 0, .int 0, .int 0, .int 0])), (q1, .inl (cy 3, 5, .inr (.inr (.inr (.inr (fun _ => none)))))), (q2, .inr (3, [.int (nI z_0), .ref q1_0, .ref q2_0, .ref q3_0])), (q1_0, .inl (cy 0, 150, .inl f_0)), (q2_0, .inl (cy 0, 24, .inl g_0)), (q3_0, .inl (cy 0, 24, .inl h_0))] := hD
  refine va_astq hx hb hK hP hD hS 1 3 2 3 rfl rfl rfl rfl (vi_c (by decide +kernel)) dX1_init_19 (fun H locs hP hD hS => ?_)
  have hP : va_P D vwCl [(h0, .inr (1, [.null, .null, .null, .null, .int 0, .int 0, .int 0, .int 0, .int 0])), (q1, .inl (cy 3, 5, .inr (.inr (.inr (.inr (va_up (fun _ => none) (0 : Int32).toNatClampNeg (some q2))))))), (q2, .inr (3, [.int (nI z_0), .ref q1_0, .ref q2_0, .ref q3_0])), (q1_0, .inl (cy 0, 150, .inl f_0)), (q2_0, .inl (cy 0, 24, .inl g_0)), (q3_0, .inl (cy 0, 24, .inl h_0))] H := hP
  have hD : va_D A [(h0, .inr (1, [.null, .null, .null, .null, .int 0, .int 0, .int 0, .int 0, .int 0])), (q1, .inl (cy 3, 5, .inr (.inr (.inr (.inr (va_up (fun _ => none) (0 : Int32).toNatClampNeg (some q2))))))), (q2, .inr (3, [.int (nI z_0), .ref q1_0, .ref q2_0, .ref q3_0])), (q1_0, .inl (cy 0, 150, .inl f_0)), (q2_0, .inl (cy 0, 24, .inl g_0)), (q3_0, .inl (cy 0, 24, .inl h_0))] := hD
  have hP : va_P D vwCl [(h0, .inr (1, [.null, .null, .null, .null, .int 0, .int 0, .int 0, .int 0, .int 0])), (q1, .inl (cy 3, 5, .inr (.inr (.inr (.inr (va_up (fun _ => none) 0 (some q2))))))), (q2, .inr (3, [.int (nI z_0), .ref q1_0, .ref q2_0, .ref q3_0])), (q1_0, .inl (cy 0, 150, .inl f_0)), (q2_0, .inl (cy 0, 24, .inl g_0)), (q3_0, .inl (cy 0, 24, .inl h_0))] H := hP
  have hD : va_D A [(h0, .inr (1, [.null, .null, .null, .null, .int 0, .int 0, .int 0, .int 0, .int 0])), (q1, .inl (cy 3, 5, .inr (.inr (.inr (.inr (va_up (fun _ => none) 0 (some q2))))))), (q2, .inr (3, [.int (nI z_0), .ref q1_0, .ref q2_0, .ref q3_0])), (q1_0, .inl (cy 0, 150, .inl f_0)), (q2_0, .inl (cy 0, 24, .inl g_0)), (q3_0, .inl (cy 0, 24, .inl h_0))] := hD
  refine lv_dup hx hb dX1_init_20 rfl ?_
  refine lv_iconst (v := 1) hx hb dX1_init_21 (by decide) ?_
  refine va_new (ci := 3) (fs := [.int 0, .null, .null, .null]) (C := RX3) (T := TX3) (N := 4) hx hb hts hw_X3 tyX3 tyX3_ok hown cl_9 ins_X3 ini_X3 hK hP hD hS hA rfl (fun j hj => by rcases (show j = 0 ∨ j = 1 ∨ j = 2 ∨ j = 3 by omega) with rfl | rfl | rfl | rfl <;> rfl) (Nat.le_of_ble_eq_true rfl) (Nat.le_of_ble_eq_true rfl) dX1_init_22 (fun q5 H hP hD hS => ?_)
  refine W.widen (k := 6) (n := 211) (Nat.le_of_ble_eq_true rfl) (Nat.le_of_ble_eq_true rfl) ?_
  have hP : va_P D vwCl [(h0, .inr (1, [.null, .null, .null, .null, .int 0, .int 0, .int 0, .int 0, .int 0])), (q1, .inl (cy 3, 5, .inr (.inr (.inr (.inr (va_up (fun _ => none) 0 (some q2))))))), (q2, .inr (3, [.int (nI z_0), .ref q1_0, .ref q2_0, .ref q3_0])), (q1_0, .inl (cy 0, 150, .inl f_0)), (q2_0, .inl (cy 0, 24, .inl g_0)), (q3_0, .inl (cy 0, 24, .inl h_0)), (q5, .inr (3, [.int 0, .null, .null, .null]))] H := hP
  have hD : va_D A [(h0, .inr (1, [.null, .null, .null, .null, .int 0, .int 0, .int 0, .int 0, .int 0])), (q1, .inl (cy 3, 5, .inr (.inr (.inr (.inr (va_up (fun _ => none) 0 (some q2))))))), (q2, .inr (3, [.int (nI z_0), .ref q1_0, .ref q2_0, .ref q3_0])), (q1_0, .inl (cy 0, 150, .inl f_0)), (q2_0, .inl (cy 0, 24, .inl g_0)), (q3_0, .inl (cy 0, 24, .inl h_0)), (q5, .inr (3, [.int 0, .null, .null, .null]))] := hD
  refine lv_dup hx hb dX1_init_25 rfl ?_
  refine lv_iconst (v := 1) hx hb dX1_init_26 (by decide) ?_
  refine kc_v (wc := [(q5, .inr (3, [.int 0, .null, .null, .null]))]) (wr := [(h0, .inr (1, [.null, .null, .null, .null, .int 0, .int 0, .int 0, .int 0, .int 0])), (q1, .inl (cy 3, 5, .inr (.inr (.inr (.inr (va_up (fun _ => none) 0 (some q2))))))), (q2, .inr (3, [.int (nI z_0), .ref q1_0, .ref q2_0, .ref q3_0])), (q1_0, .inl (cy 0, 150, .inl f_0)), (q2_0, .inl (cy 0, 24, .inl g_0)), (q3_0, .inl (cy 0, 24, .inl h_0))]) (va_runI (As := [.int 1]) (rest := [.ref q5, .int 1, .ref q1, .ref q1, .ref h0]) ⟨hx, hb, hml, hown, hts⟩ (c_X3_init l D cy H.size q5 1 (by decide)) (cwI 1 hts gX1_init_X3_init rfl rfl rfl ini_X3 m_11 im_X3_init rfl (by decide +kernel) ⟨Nat.le_of_ble_eq_true rfl, Nat.le_of_ble_eq_true rfl⟩) (cpre_S (wc := [(q5, .inr (3, [.int 0, .null, .null, .null]))]) hX hP hD hS hA [6] (by decide) rfl) rfl rfl hl.1 rfl (lv_room (Nat.le_of_ble_eq_true rfl)) dX1_init_27 ⟨Nat.le_of_ble_eq_true rfl, Nat.le_of_ble_eq_true rfl⟩) hP hD hS hA [6] [0, 1, 2, 3, 4, 5] rfl rfl (by decide) (by decide) (fun u7 H locs hw hP hD hS => ?_)
  obtain ⟨q1_1, q2_1, q3_1, z_1, f_1, g_1, h_1, hu, ha_1, hb_1, hc_1⟩ := hw
  subst hu
  refine W.widen (k := 9) (n := 409) (Nat.le_of_ble_eq_true rfl) (Nat.le_of_ble_eq_true rfl) ?_
  have hP : va_P D vwCl [(h0, .inr (1, [.null, .null, .null, .null, .int 0, .int 0, .int 0, .int 0, .int 0])), (q1, .inl (cy 3, 5, .inr (.inr (.inr (.inr (va_up (fun _ => none) 0 (some q2))))))), (q2, .inr (3, [.int (nI z_0), .ref q1_0, .ref q2_0, .ref q3_0])), (q1_0, .inl (cy 0, 150, .inl f_0)), (q2_0, .inl (cy 0, 24, .inl g_0)), (q3_0, .inl (cy 0, 24, .inl h_0)), (q5, .inr (3, [.int (nI z_1), .ref q1_1, .ref q2_1, .ref q3_1])), (q1_1, .inl (cy 0, 150, .inl f_1)), (q2_1, .inl (cy 0, 24, .inl g_1)), (q3_1, .inl (cy 0, 24, .inl h_1))] H := hP
  have hD : va_D A [(h0, .inr (1, [.null, .null, .null, .null, .int 0, .int 0, .int 0, .int 0, .int 0])), (q1, .inl (cy 3, 5, .inr (.inr (.inr (.inr (va_up (fun _ => none) 0 (some q2))))))), (q2, .inr (3, [.int (nI z_0), .ref q1_0, .ref q2_0, .ref q3_0])), (q1_0, .inl (cy 0, 150, .inl f_0)), (q2_0, .inl (cy 0, 24, .inl g_0)), (q3_0, .inl (cy 0, 24, .inl h_0)), (q5, .inr (3, [.int (nI z_1), .ref q1_1, .ref q2_1, .ref q3_1])), (q1_1, .inl (cy 0, 150, .inl f_1)), (q2_1, .inl (cy 0, 24, .inl g_1)), (q3_1, .inl (cy 0, 24, .inl h_1))] := hD
  refine va_astq hx hb hK hP hD hS 1 3 6 3 rfl rfl rfl rfl (vi_c (by decide +kernel)) dX1_init_30 (fun H locs hP hD hS => ?_)
  have hP : va_P D vwCl [(h0, .inr (1, [.null, .null, .null, .null, .int 0, .int 0, .int 0, .int 0, .int 0])), (q1, .inl (cy 3, 5, .inr (.inr (.inr (.inr (va_up (va_up (fun _ => none) 0 (some q2)) (1 : Int32).toNatClampNeg (some q5))))))), (q2, .inr (3, [.int (nI z_0), .ref q1_0, .ref q2_0, .ref q3_0])), (q1_0, .inl (cy 0, 150, .inl f_0)), (q2_0, .inl (cy 0, 24, .inl g_0)), (q3_0, .inl (cy 0, 24, .inl h_0)), (q5, .inr (3, [.int (nI z_1), .ref q1_1, .ref q2_1, .ref q3_1])), (q1_1, .inl (cy 0, 150, .inl f_1)), (q2_1, .inl (cy 0, 24, .inl g_1)), (q3_1, .inl (cy 0, 24, .inl h_1))] H := hP
  have hD : va_D A [(h0, .inr (1, [.null, .null, .null, .null, .int 0, .int 0, .int 0, .int 0, .int 0])), (q1, .inl (cy 3, 5, .inr (.inr (.inr (.inr (va_up (va_up (fun _ => none) 0 (some q2)) (1 : Int32).toNatClampNeg (some q5))))))), (q2, .inr (3, [.int (nI z_0), .ref q1_0, .ref q2_0, .ref q3_0])), (q1_0, .inl (cy 0, 150, .inl f_0)), (q2_0, .inl (cy 0, 24, .inl g_0)), (q3_0, .inl (cy 0, 24, .inl h_0)), (q5, .inr (3, [.int (nI z_1), .ref q1_1, .ref q2_1, .ref q3_1])), (q1_1, .inl (cy 0, 150, .inl f_1)), (q2_1, .inl (cy 0, 24, .inl g_1)), (q3_1, .inl (cy 0, 24, .inl h_1))] := hD
  have hP : va_P D vwCl [(h0, .inr (1, [.null, .null, .null, .null, .int 0, .int 0, .int 0, .int 0, .int 0])), (q1, .inl (cy 3, 5, .inr (.inr (.inr (.inr (va_up (va_up (fun _ => none) 0 (some q2)) 1 (some q5))))))), (q2, .inr (3, [.int (nI z_0), .ref q1_0, .ref q2_0, .ref q3_0])), (q1_0, .inl (cy 0, 150, .inl f_0)), (q2_0, .inl (cy 0, 24, .inl g_0)), (q3_0, .inl (cy 0, 24, .inl h_0)), (q5, .inr (3, [.int (nI z_1), .ref q1_1, .ref q2_1, .ref q3_1])), (q1_1, .inl (cy 0, 150, .inl f_1)), (q2_1, .inl (cy 0, 24, .inl g_1)), (q3_1, .inl (cy 0, 24, .inl h_1))] H := hP
  have hD : va_D A [(h0, .inr (1, [.null, .null, .null, .null, .int 0, .int 0, .int 0, .int 0, .int 0])), (q1, .inl (cy 3, 5, .inr (.inr (.inr (.inr (va_up (va_up (fun _ => none) 0 (some q2)) 1 (some q5))))))), (q2, .inr (3, [.int (nI z_0), .ref q1_0, .ref q2_0, .ref q3_0])), (q1_0, .inl (cy 0, 150, .inl f_0)), (q2_0, .inl (cy 0, 24, .inl g_0)), (q3_0, .inl (cy 0, 24, .inl h_0)), (q5, .inr (3, [.int (nI z_1), .ref q1_1, .ref q2_1, .ref q3_1])), (q1_1, .inl (cy 0, 150, .inl f_1)), (q2_1, .inl (cy 0, 24, .inl g_1)), (q3_1, .inl (cy 0, 24, .inl h_1))] := hD
  refine lv_dup hx hb dX1_init_31 rfl ?_
  refine lv_iconst (v := 2) hx hb dX1_init_32 (by decide) ?_
  refine va_new (ci := 3) (fs := [.int 0, .null, .null, .null]) (C := RX3) (T := TX3) (N := 4) hx hb hts hw_X3 tyX3 tyX3_ok hown cl_9 ins_X3 ini_X3 hK hP hD hS hA rfl (fun j hj => by rcases (show j = 0 ∨ j = 1 ∨ j = 2 ∨ j = 3 by omega) with rfl | rfl | rfl | rfl <;> rfl) (Nat.le_of_ble_eq_true rfl) (Nat.le_of_ble_eq_true rfl) dX1_init_33 (fun q8 H hP hD hS => ?_)
  refine W.widen (k := 10) (n := 413) (Nat.le_of_ble_eq_true rfl) (Nat.le_of_ble_eq_true rfl) ?_
  have hP : va_P D vwCl [(h0, .inr (1, [.null, .null, .null, .null, .int 0, .int 0, .int 0, .int 0, .int 0])), (q1, .inl (cy 3, 5, .inr (.inr (.inr (.inr (va_up (va_up (fun _ => none) 0 (some q2)) 1 (some q5))))))), (q2, .inr (3, [.int (nI z_0), .ref q1_0, .ref q2_0, .ref q3_0])), (q1_0, .inl (cy 0, 150, .inl f_0)), (q2_0, .inl (cy 0, 24, .inl g_0)), (q3_0, .inl (cy 0, 24, .inl h_0)), (q5, .inr (3, [.int (nI z_1), .ref q1_1, .ref q2_1, .ref q3_1])), (q1_1, .inl (cy 0, 150, .inl f_1)), (q2_1, .inl (cy 0, 24, .inl g_1)), (q3_1, .inl (cy 0, 24, .inl h_1)), (q8, .inr (3, [.int 0, .null, .null, .null]))] H := hP
  have hD : va_D A [(h0, .inr (1, [.null, .null, .null, .null, .int 0, .int 0, .int 0, .int 0, .int 0])), (q1, .inl (cy 3, 5, .inr (.inr (.inr (.inr (va_up (va_up (fun _ => none) 0 (some q2)) 1 (some q5))))))), (q2, .inr (3, [.int (nI z_0), .ref q1_0, .ref q2_0, .ref q3_0])), (q1_0, .inl (cy 0, 150, .inl f_0)), (q2_0, .inl (cy 0, 24, .inl g_0)), (q3_0, .inl (cy 0, 24, .inl h_0)), (q5, .inr (3, [.int (nI z_1), .ref q1_1, .ref q2_1, .ref q3_1])), (q1_1, .inl (cy 0, 150, .inl f_1)), (q2_1, .inl (cy 0, 24, .inl g_1)), (q3_1, .inl (cy 0, 24, .inl h_1)), (q8, .inr (3, [.int 0, .null, .null, .null]))] := hD
  refine lv_dup hx hb dX1_init_36 rfl ?_
  refine lv_iconst (v := 2) hx hb dX1_init_37 (by decide) ?_
  refine kc_v (wc := [(q8, .inr (3, [.int 0, .null, .null, .null]))]) (wr := [(h0, .inr (1, [.null, .null, .null, .null, .int 0, .int 0, .int 0, .int 0, .int 0])), (q1, .inl (cy 3, 5, .inr (.inr (.inr (.inr (va_up (va_up (fun _ => none) 0 (some q2)) 1 (some q5))))))), (q2, .inr (3, [.int (nI z_0), .ref q1_0, .ref q2_0, .ref q3_0])), (q1_0, .inl (cy 0, 150, .inl f_0)), (q2_0, .inl (cy 0, 24, .inl g_0)), (q3_0, .inl (cy 0, 24, .inl h_0)), (q5, .inr (3, [.int (nI z_1), .ref q1_1, .ref q2_1, .ref q3_1])), (q1_1, .inl (cy 0, 150, .inl f_1)), (q2_1, .inl (cy 0, 24, .inl g_1)), (q3_1, .inl (cy 0, 24, .inl h_1))]) (va_runI (As := [.int 2]) (rest := [.ref q8, .int 2, .ref q1, .ref q1, .ref h0]) ⟨hx, hb, hml, hown, hts⟩ (c_X3_init l D cy H.size q8 2 (by decide)) (cwI 1 hts gX1_init_X3_init rfl rfl rfl ini_X3 m_11 im_X3_init rfl (by decide +kernel) ⟨Nat.le_of_ble_eq_true rfl, Nat.le_of_ble_eq_true rfl⟩) (cpre_S (wc := [(q8, .inr (3, [.int 0, .null, .null, .null]))]) hX hP hD hS hA [10] (by decide) rfl) rfl rfl hl.1 rfl (lv_room (Nat.le_of_ble_eq_true rfl)) dX1_init_38 ⟨Nat.le_of_ble_eq_true rfl, Nat.le_of_ble_eq_true rfl⟩) hP hD hS hA [10] [0, 1, 2, 3, 4, 5, 6, 7, 8, 9] rfl rfl (by decide) (by decide) (fun u10 H locs hw hP hD hS => ?_)
  obtain ⟨q1_2, q2_2, q3_2, z_2, f_2, g_2, h_2, hu, ha_2, hb_2, hc_2⟩ := hw
  subst hu
  refine W.widen (k := 13) (n := 611) (Nat.le_of_ble_eq_true rfl) (Nat.le_of_ble_eq_true rfl) ?_
  have hP : va_P D vwCl [(h0, .inr (1, [.null, .null, .null, .null, .int 0, .int 0, .int 0, .int 0, .int 0])), (q1, .inl (cy 3, 5, .inr (.inr (.inr (.inr (va_up (va_up (fun _ => none) 0 (some q2)) 1 (some q5))))))), (q2, .inr (3, [.int (nI z_0), .ref q1_0, .ref q2_0, .ref q3_0])), (q1_0, .inl (cy 0, 150, .inl f_0)), (q2_0, .inl (cy 0, 24, .inl g_0)), (q3_0, .inl (cy 0, 24, .inl h_0)), (q5, .inr (3, [.int (nI z_1), .ref q1_1, .ref q2_1, .ref q3_1])), (q1_1, .inl (cy 0, 150, .inl f_1)), (q2_1, .inl (cy 0, 24, .inl g_1)), (q3_1, .inl (cy 0, 24, .inl h_1)), (q8, .inr (3, [.int (nI z_2), .ref q1_2, .ref q2_2, .ref q3_2])), (q1_2, .inl (cy 0, 150, .inl f_2)), (q2_2, .inl (cy 0, 24, .inl g_2)), (q3_2, .inl (cy 0, 24, .inl h_2))] H := hP
  have hD : va_D A [(h0, .inr (1, [.null, .null, .null, .null, .int 0, .int 0, .int 0, .int 0, .int 0])), (q1, .inl (cy 3, 5, .inr (.inr (.inr (.inr (va_up (va_up (fun _ => none) 0 (some q2)) 1 (some q5))))))), (q2, .inr (3, [.int (nI z_0), .ref q1_0, .ref q2_0, .ref q3_0])), (q1_0, .inl (cy 0, 150, .inl f_0)), (q2_0, .inl (cy 0, 24, .inl g_0)), (q3_0, .inl (cy 0, 24, .inl h_0)), (q5, .inr (3, [.int (nI z_1), .ref q1_1, .ref q2_1, .ref q3_1])), (q1_1, .inl (cy 0, 150, .inl f_1)), (q2_1, .inl (cy 0, 24, .inl g_1)), (q3_1, .inl (cy 0, 24, .inl h_1)), (q8, .inr (3, [.int (nI z_2), .ref q1_2, .ref q2_2, .ref q3_2])), (q1_2, .inl (cy 0, 150, .inl f_2)), (q2_2, .inl (cy 0, 24, .inl g_2)), (q3_2, .inl (cy 0, 24, .inl h_2))] := hD
  refine va_astq hx hb hK hP hD hS 1 3 10 3 rfl rfl rfl rfl (vi_c (by decide +kernel)) dX1_init_41 (fun H locs hP hD hS => ?_)
  have hP : va_P D vwCl [(h0, .inr (1, [.null, .null, .null, .null, .int 0, .int 0, .int 0, .int 0, .int 0])), (q1, .inl (cy 3, 5, .inr (.inr (.inr (.inr (va_up (va_up (va_up (fun _ => none) 0 (some q2)) 1 (some q5)) (2 : Int32).toNatClampNeg (some q8))))))), (q2, .inr (3, [.int (nI z_0), .ref q1_0, .ref q2_0, .ref q3_0])), (q1_0, .inl (cy 0, 150, .inl f_0)), (q2_0, .inl (cy 0, 24, .inl g_0)), (q3_0, .inl (cy 0, 24, .inl h_0)), (q5, .inr (3, [.int (nI z_1), .ref q1_1, .ref q2_1, .ref q3_1])), (q1_1, .inl (cy 0, 150, .inl f_1)), (q2_1, .inl (cy 0, 24, .inl g_1)), (q3_1, .inl (cy 0, 24, .inl h_1)), (q8, .inr (3, [.int (nI z_2), .ref q1_2, .ref q2_2, .ref q3_2])), (q1_2, .inl (cy 0, 150, .inl f_2)), (q2_2, .inl (cy 0, 24, .inl g_2)), (q3_2, .inl (cy 0, 24, .inl h_2))] H := hP
  have hD : va_D A [(h0, .inr (1, [.null, .null, .null, .null, .int 0, .int 0, .int 0, .int 0, .int 0])), (q1, .inl (cy 3, 5, .inr (.inr (.inr (.inr (va_up (va_up (va_up (fun _ => none) 0 (some q2)) 1 (some q5)) (2 : Int32).toNatClampNeg (some q8))))))), (q2, .inr (3, [.int (nI z_0), .ref q1_0, .ref q2_0, .ref q3_0])), (q1_0, .inl (cy 0, 150, .inl f_0)), (q2_0, .inl (cy 0, 24, .inl g_0)), (q3_0, .inl (cy 0, 24, .inl h_0)), (q5, .inr (3, [.int (nI z_1), .ref q1_1, .ref q2_1, .ref q3_1])), (q1_1, .inl (cy 0, 150, .inl f_1)), (q2_1, .inl (cy 0, 24, .inl g_1)), (q3_1, .inl (cy 0, 24, .inl h_1)), (q8, .inr (3, [.int (nI z_2), .ref q1_2, .ref q2_2, .ref q3_2])), (q1_2, .inl (cy 0, 150, .inl f_2)), (q2_2, .inl (cy 0, 24, .inl g_2)), (q3_2, .inl (cy 0, 24, .inl h_2))] := hD
  have hP : va_P D vwCl [(h0, .inr (1, [.null, .null, .null, .null, .int 0, .int 0, .int 0, .int 0, .int 0])), (q1, .inl (cy 3, 5, .inr (.inr (.inr (.inr (va_up (va_up (va_up (fun _ => none) 0 (some q2)) 1 (some q5)) 2 (some q8))))))), (q2, .inr (3, [.int (nI z_0), .ref q1_0, .ref q2_0, .ref q3_0])), (q1_0, .inl (cy 0, 150, .inl f_0)), (q2_0, .inl (cy 0, 24, .inl g_0)), (q3_0, .inl (cy 0, 24, .inl h_0)), (q5, .inr (3, [.int (nI z_1), .ref q1_1, .ref q2_1, .ref q3_1])), (q1_1, .inl (cy 0, 150, .inl f_1)), (q2_1, .inl (cy 0, 24, .inl g_1)), (q3_1, .inl (cy 0, 24, .inl h_1)), (q8, .inr (3, [.int (nI z_2), .ref q1_2, .ref q2_2, .ref q3_2])), (q1_2, .inl (cy 0, 150, .inl f_2)), (q2_2, .inl (cy 0, 24, .inl g_2)), (q3_2, .inl (cy 0, 24, .inl h_2))] H := hP
  have hD : va_D A [(h0, .inr (1, [.null, .null, .null, .null, .int 0, .int 0, .int 0, .int 0, .int 0])), (q1, .inl (cy 3, 5, .inr (.inr (.inr (.inr (va_up (va_up (va_up (fun _ => none) 0 (some q2)) 1 (some q5)) 2 (some q8))))))), (q2, .inr (3, [.int (nI z_0), .ref q1_0, .ref q2_0, .ref q3_0])), (q1_0, .inl (cy 0, 150, .inl f_0)), (q2_0, .inl (cy 0, 24, .inl g_0)), (q3_0, .inl (cy 0, 24, .inl h_0)), (q5, .inr (3, [.int (nI z_1), .ref q1_1, .ref q2_1, .ref q3_1])), (q1_1, .inl (cy 0, 150, .inl f_1)), (q2_1, .inl (cy 0, 24, .inl g_1)), (q3_1, .inl (cy 0, 24, .inl h_1)), (q8, .inr (3, [.int (nI z_2), .ref q1_2, .ref q2_2, .ref q3_2])), (q1_2, .inl (cy 0, 150, .inl f_2)), (q2_2, .inl (cy 0, 24, .inl g_2)), (q3_2, .inl (cy 0, 24, .inl h_2))] := hD
  refine lv_dup hx hb dX1_init_42 rfl ?_
  refine lv_iconst (v := 3) hx hb dX1_init_43 (by decide) ?_
  refine va_new (ci := 3) (fs := [.int 0, .null, .null, .null]) (C := RX3) (T := TX3) (N := 4) hx hb hts hw_X3 tyX3 tyX3_ok hown cl_9 ins_X3 ini_X3 hK hP hD hS hA rfl (fun j hj => by rcases (show j = 0 ∨ j = 1 ∨ j = 2 ∨ j = 3 by omega) with rfl | rfl | rfl | rfl <;> rfl) (Nat.le_of_ble_eq_true rfl) (Nat.le_of_ble_eq_true rfl) dX1_init_44 (fun q11 H hP hD hS => ?_)
  refine W.widen (k := 14) (n := 615) (Nat.le_of_ble_eq_true rfl) (Nat.le_of_ble_eq_true rfl) ?_
  have hP : va_P D vwCl [(h0, .inr (1, [.null, .null, .null, .null, .int 0, .int 0, .int 0, .int 0, .int 0])), (q1, .inl (cy 3, 5, .inr (.inr (.inr (.inr (va_up (va_up (va_up (fun _ => none) 0 (some q2)) 1 (some q5)) 2 (some q8))))))), (q2, .inr (3, [.int (nI z_0), .ref q1_0, .ref q2_0, .ref q3_0])), (q1_0, .inl (cy 0, 150, .inl f_0)), (q2_0, .inl (cy 0, 24, .inl g_0)), (q3_0, .inl (cy 0, 24, .inl h_0)), (q5, .inr (3, [.int (nI z_1), .ref q1_1, .ref q2_1, .ref q3_1])), (q1_1, .inl (cy 0, 150, .inl f_1)), (q2_1, .inl (cy 0, 24, .inl g_1)), (q3_1, .inl (cy 0, 24, .inl h_1)), (q8, .inr (3, [.int (nI z_2), .ref q1_2, .ref q2_2, .ref q3_2])), (q1_2, .inl (cy 0, 150, .inl f_2)), (q2_2, .inl (cy 0, 24, .inl g_2)), (q3_2, .inl (cy 0, 24, .inl h_2)), (q11, .inr (3, [.int 0, .null, .null, .null]))] H := hP
  have hD : va_D A [(h0, .inr (1, [.null, .null, .null, .null, .int 0, .int 0, .int 0, .int 0, .int 0])), (q1, .inl (cy 3, 5, .inr (.inr (.inr (.inr (va_up (va_up (va_up (fun _ => none) 0 (some q2)) 1 (some q5)) 2 (some q8))))))), (q2, .inr (3, [.int (nI z_0), .ref q1_0, .ref q2_0, .ref q3_0])), (q1_0, .inl (cy 0, 150, .inl f_0)), (q2_0, .inl (cy 0, 24, .inl g_0)), (q3_0, .inl (cy 0, 24, .inl h_0)), (q5, .inr (3, [.int (nI z_1), .ref q1_1, .ref q2_1, .ref q3_1])), (q1_1, .inl (cy 0, 150, .inl f_1)), (q2_1, .inl (cy 0, 24, .inl g_1)), (q3_1, .inl (cy 0, 24, .inl h_1)), (q8, .inr (3, [.int (nI z_2), .ref q1_2, .ref q2_2, .ref q3_2])), (q1_2, .inl (cy 0, 150, .inl f_2)), (q2_2, .inl (cy 0, 24, .inl g_2)), (q3_2, .inl (cy 0, 24, .inl h_2)), (q11, .inr (3, [.int 0, .null, .null, .null]))] := hD
  refine lv_dup hx hb dX1_init_47 rfl ?_
  refine lv_iconst (v := 3) hx hb dX1_init_48 (by decide) ?_
  refine kc_v (wc := [(q11, .inr (3, [.int 0, .null, .null, .null]))]) (wr := [(h0, .inr (1, [.null, .null, .null, .null, .int 0, .int 0, .int 0, .int 0, .int 0])), (q1, .inl (cy 3, 5, .inr (.inr (.inr (.inr (va_up (va_up (va_up (fun _ => none) 0 (some q2)) 1 (some q5)) 2 (some q8))))))), (q2, .inr (3, [.int (nI z_0), .ref q1_0, .ref q2_0, .ref q3_0])), (q1_0, .inl (cy 0, 150, .inl f_0)), (q2_0, .inl (cy 0, 24, .inl g_0)), (q3_0, .inl (cy 0, 24, .inl h_0)), (q5, .inr (3, [.int (nI z_1), .ref q1_1, .ref q2_1, .ref q3_1])), (q1_1, .inl (cy 0, 150, .inl f_1)), (q2_1, .inl (cy 0, 24, .inl g_1)), (q3_1, .inl (cy 0, 24, .inl h_1)), (q8, .inr (3, [.int (nI z_2), .ref q1_2, .ref q2_2, .ref q3_2])), (q1_2, .inl (cy 0, 150, .inl f_2)), (q2_2, .inl (cy 0, 24, .inl g_2)), (q3_2, .inl (cy 0, 24, .inl h_2))]) (va_runI (As := [.int 3]) (rest := [.ref q11, .int 3, .ref q1, .ref q1, .ref h0]) ⟨hx, hb, hml, hown, hts⟩ (c_X3_init l D cy H.size q11 3 (by decide)) (cwI 1 hts gX1_init_X3_init rfl rfl rfl ini_X3 m_11 im_X3_init rfl (by decide +kernel) ⟨Nat.le_of_ble_eq_true rfl, Nat.le_of_ble_eq_true rfl⟩) (cpre_S (wc := [(q11, .inr (3, [.int 0, .null, .null, .null]))]) hX hP hD hS hA [14] (by decide) rfl) rfl rfl hl.1 rfl (lv_room (Nat.le_of_ble_eq_true rfl)) dX1_init_49 ⟨Nat.le_of_ble_eq_true rfl, Nat.le_of_ble_eq_true rfl⟩) hP hD hS hA [14] [0, 1, 2, 3, 4, 5, 6, 7, 8, 9, 10, 11, 12, 13] rfl rfl (by decide) (by decide) (fun u13 H locs hw hP hD hS => ?_)
  obtain ⟨q1_3, q2_3, q3_3, z_3, f_3, g_3, h_3, hu, ha_3, hb_3, hc_3⟩ := hw
  subst hu
  refine W.widen (k := 17) (n := 813) (Nat.le_of_ble_eq_true rfl) (Nat.le_of_ble_eq_true rfl) ?_
  have hP : va_P D vwCl [(h0, .inr (1, [.null, .null, .null, .null, .int 0, .int 0, .int 0, .int 0, .int 0])), (q1, .inl (cy 3, 5, .inr (.inr (.inr (.inr (va_up (va_up (va_up (fun _ => none) 0 (some q2)) 1 (some q5)) 2 (some q8))))))), (q2, .inr (3, [.int (nI z_0), .ref q1_0, .ref q2_0, .ref q3_0])), (q1_0, .inl (cy 0, 150, .inl f_0)), (q2_0, .inl (cy 0, 24, .inl g_0)), (q3_0, .inl (cy 0, 24, .inl h_0)), (q5, .inr (3, [.int (nI z_1), .ref q1_1, .ref q2_1, .ref q3_1])), (q1_1, .inl (cy 0, 150, .inl f_1)), (q2_1, .inl (cy 0, 24, .inl g_1)), (q3_1, .inl (cy 0, 24, .inl h_1)), (q8, .inr (3, [.int (nI z_2), .ref q1_2, .ref q2_2, .ref q3_2])), (q1_2, .inl (cy 0, 150, .inl f_2)), (q2_2, .inl (cy 0, 24, .inl g_2)), (q3_2, .inl (cy 0, 24, .inl h_2)), (q11, .inr (3, [.int (nI z_3), .ref q1_3, .ref q2_3, .ref q3_3])), (q1_3, .inl (cy 0, 150, .inl f_3)), (q2_3, .inl (cy 0, 24, .inl g_3)), (q3_3, .inl (cy 0, 24, .inl h_3))] H := hP
  have hD : va_D A [(h0, .inr (1, [.null, .null, .null, .null, .int 0, .int 0, .int 0, .int 0, .int 0])), (q1, .inl (cy 3, 5, .inr (.inr (.inr (.inr (va_up (va_up (va_up (fun _ => none) 0 (some q2)) 1 (some q5)) 2 (some q8))))))), (q2, .inr (3, [.int (nI z_0), .ref q1_0, .ref q2_0, .ref q3_0])), (q1_0, .inl (cy 0, 150, .inl f_0)), (q2_0, .inl (cy 0, 24, .inl g_0)), (q3_0, .inl (cy 0, 24, .inl h_0)), (q5, .inr (3, [.int (nI z_1), .ref q1_1, .ref q2_1, .ref q3_1])), (q1_1, .inl (cy 0, 150, .inl f_1)), (q2_1, .inl (cy 0, 24, .inl g_1)), (q3_1, .inl (cy 0, 24, .inl h_1)), (q8, .inr (3, [.int (nI z_2), .ref q1_2, .ref q2_2, .ref q3_2])), (q1_2, .inl (cy 0, 150, .inl f_2)), (q2_2, .inl (cy 0, 24, .inl g_2)), (q3_2, .inl (cy 0, 24, .inl h_2)), (q11, .inr (3, [.int (nI z_3), .ref q1_3, .ref q2_3, .ref q3_3])), (q1_3, .inl (cy 0, 150, .inl f_3)), (q2_3, .inl (cy 0, 24, .inl g_3)), (q3_3, .inl (cy 0, 24, .inl h_3))] := hD
  refine va_astq hx hb hK hP hD hS 1 3 14 3 rfl rfl rfl rfl (vi_c (by decide +kernel)) dX1_init_52 (fun H locs hP hD hS => ?_)
  have hP : va_P D vwCl [(h0, .inr (1, [.null, .null, .null, .null, .int 0, .int 0, .int 0, .int 0, .int 0])), (q1, .inl (cy 3, 5, .inr (.inr (.inr (.inr (va_up (va_up (va_up (va_up (fun _ => none) 0 (some q2)) 1 (some q5)) 2 (some q8)) (3 : Int32).toNatClampNeg (some q11))))))), (q2, .inr (3, [.int (nI z_0), .ref q1_0, .ref q2_0, .ref q3_0])), (q1_0, .inl (cy 0, 150, .inl f_0)), (q2_0, .inl (cy 0, 24, .inl g_0)), (q3_0, .inl (cy 0, 24, .inl h_0)), (q5, .inr (3, [.int (nI z_1), .ref q1_1, .ref q2_1, .ref q3_1])), (q1_1, .inl (cy 0, 150, .inl f_1)), (q2_1, .inl (cy 0, 24, .inl g_1)), (q3_1, .inl (cy 0, 24, .inl h_1)), (q8, .inr (3, [.int (nI z_2), .ref q1_2, .ref q2_2, .ref q3_2])), (q1_2, .inl (cy 0, 150, .inl f_2)), (q2_2, .inl (cy 0, 24, .inl g_2)), (q3_2, .inl (cy 0, 24, .inl h_2)), (q11, .inr (3, [.int (nI z_3), .ref q1_3, .ref q2_3, .ref q3_3])), (q1_3, .inl (cy 0, 150, .inl f_3)), (q2_3, .inl (cy 0, 24, .inl g_3)), (q3_3, .inl (cy 0, 24, .inl h_3))] H := hP
  have hD : va_D A [(h0, .inr (1, [.null, .null, .null, .null, .int 0, .int 0, .int 0, .int 0, .int 0])), (q1, .inl (cy 3, 5, .inr (.inr (.inr (.inr (va_up (va_up (va_up (va_up (fun _ => none) 0 (some q2)) 1 (some q5)) 2 (some q8)) (3 : Int32).toNatClampNeg (some q11))))))), (q2, .inr (3, [.int (nI z_0), .ref q1_0, .ref q2_0, .ref q3_0])), (q1_0, .inl (cy 0, 150, .inl f_0)), (q2_0, .inl (cy 0, 24, .inl g_0)), (q3_0, .inl (cy 0, 24, .inl h_0)), (q5, .inr (3, [.int (nI z_1), .ref q1_1, .ref q2_1, .ref q3_1])), (q1_1, .inl (cy 0, 150, .inl f_1)), (q2_1, .inl (cy 0, 24, .inl g_1)), (q3_1, .inl (cy 0, 24, .inl h_1)), (q8, .inr (3, [.int (nI z_2), .ref q1_2, .ref q2_2, .ref q3_2])), (q1_2, .inl (cy 0, 150, .inl f_2)), (q2_2, .inl (cy 0, 24, .inl g_2)), (q3_2, .inl (cy 0, 24, .inl h_2)), (q11, .inr (3, [.int (nI z_3), .ref q1_3, .ref q2_3, .ref q3_3])), (q1_3, .inl (cy 0, 150, .inl f_3)), (q2_3, .inl (cy 0, 24, .inl g_3)), (q3_3, .inl (cy 0, 24, .inl h_3))] := hD
  have hP : va_P D vwCl [(h0, .inr (1, [.null, .null, .null, .null, .int 0, .int 0, .int 0, .int 0, .int 0])), (q1, .inl (cy 3, 5, .inr (.inr (.inr (.inr (va_up (va_up (va_up (va_up (fun _ => none) 0 (some q2)) 1 (some q5)) 2 (some q8)) 3 (some q11))))))), (q2, .inr (3, [.int (nI z_0), .ref q1_0, .ref q2_0, .ref q3_0])), (q1_0, .inl (cy 0, 150, .inl f_0)), (q2_0, .inl (cy 0, 24, .inl g_0)), (q3_0, .inl (cy 0, 24, .inl h_0)), (q5, .inr (3, [.int (nI z_1), .ref q1_1, .ref q2_1, .ref q3_1])), (q1_1, .inl (cy 0, 150, .inl f_1)), (q2_1, .inl (cy 0, 24, .inl g_1)), (q3_1, .inl (cy 0, 24, .inl h_1)), (q8, .inr (3, [.int (nI z_2), .ref q1_2, .ref q2_2, .ref q3_2])), (q1_2, .inl (cy 0, 150, .inl f_2)), (q2_2, .inl (cy 0, 24, .inl g_2)), (q3_2, .inl (cy 0, 24, .inl h_2)), (q11, .inr (3, [.int (nI z_3), .ref q1_3, .ref q2_3, .ref q3_3])), (q1_3, .inl (cy 0, 150, .inl f_3)), (q2_3, .inl (cy 0, 24, .inl g_3)), (q3_3, .inl (cy 0, 24, .inl h_3))] H := hP
  have hD : va_D A [(h0, .inr (1, [.null, .null, .null, .null, .int 0, .int 0, .int 0, .int 0, .int 0])), (q1, .inl (cy 3, 5, .inr (.inr (.inr (.inr (va_up (va_up (va_up (va_up (fun _ => none) 0 (some q2)) 1 (some q5)) 2 (some q8)) 3 (some q11))))))), (q2, .inr (3, [.int (nI z_0), .ref q1_0, .ref q2_0, .ref q3_0])), (q1_0, .inl (cy 0, 150, .inl f_0)), (q2_0, .inl (cy 0, 24, .inl g_0)), (q3_0, .inl (cy 0, 24, .inl h_0)), (q5, .inr (3, [.int (nI z_1), .ref q1_1, .ref q2_1, .ref q3_1])), (q1_1, .inl (cy 0, 150, .inl f_1)), (q2_1, .inl (cy 0, 24, .inl g_1)), (q3_1, .inl (cy 0, 24, .inl h_1)), (q8, .inr (3, [.int (nI z_2), .ref q1_2, .ref q2_2, .ref q3_2])), (q1_2, .inl (cy 0, 150, .inl f_2)), (q2_2, .inl (cy 0, 24, .inl g_2)), (q3_2, .inl (cy 0, 24, .inl h_2)), (q11, .inr (3, [.int (nI z_3), .ref q1_3, .ref q2_3, .ref q3_3])), (q1_3, .inl (cy 0, 150, .inl f_3)), (q2_3, .inl (cy 0, 24, .inl g_3)), (q3_3, .inl (cy 0, 24, .inl h_3))] := hD
  refine lv_dup hx hb dX1_init_53 rfl ?_
  refine lv_iconst (v := 4) hx hb dX1_init_54 (by decide) ?_
  refine va_new (ci := 3) (fs := [.int 0, .null, .null, .null]) (C := RX3) (T := TX3) (N := 4) hx hb hts hw_X3 tyX3 tyX3_ok hown cl_9 ins_X3 ini_X3 hK hP hD hS hA rfl (fun j hj => by rcases (show j = 0 ∨ j = 1 ∨ j = 2 ∨ j = 3 by omega) with rfl | rfl | rfl | rfl <;> rfl) (Nat.le_of_ble_eq_true rfl) (Nat.le_of_ble_eq_true rfl) dX1_init_55 (fun q14 H hP hD hS => ?_)
  refine W.widen (k := 18) (n := 817) (Nat.le_of_ble_eq_true rfl) (Nat.le_of_ble_eq_true rfl) ?_
  have hP : va_P D vwCl [(h0, .inr (1, [.null, .null, .null, .null, .int 0, .int 0, .int 0, .int 0, .int 0])), (q1, .inl (cy 3, 5, .inr (.inr (.inr (.inr (va_up (va_up (va_up (va_up (fun _ => none) 0 (some q2)) 1 (some q5)) 2 (some q8)) 3 (some q11))))))), (q2, .inr (3, [.int (nI z_0), .ref q1_0, .ref q2_0, .ref q3_0])), (q1_0, .inl (cy 0, 150, .inl f_0)), (q2_0, .inl (cy 0, 24, .inl g_0)), (q3_0, .inl (cy 0, 24, .inl h_0)), (q5, .inr (3, [.int (nI z_1), .ref q1_1, .ref q2_1, .ref q3_1])), (q1_1, .inl (cy 0, 150, .inl f_1)), (q2_1, .inl (cy 0, 24, .inl g_1)), (q3_1, .inl (cy 0, 24, .inl h_1)), (q8, .inr (3, [.int (nI z_2), .ref q1_2, .ref q2_2, .ref q3_2])), (q1_2, .inl (cy 0, 150, .inl f_2)), (q2_2, .inl (cy 0, 24, .inl g_2)), (q3_2, .inl (cy 0, 24, .inl h_2)), (q11, .inr (3, [.int (nI z_3), .ref q1_3, .ref q2_3, .ref q3_3])), (q1_3, .inl (cy 0, 150, .inl f_3)), (q2_3, .inl (cy 0, 24, .inl g_3)), (q3_3, .inl (cy 0, 24, .inl h_3)), (q14, .inr (3, [.int 0, .null, .null, .null]))] H := hP
  have hD : va_D A [(h0, .inr (1, [.null, .null, .null, .null, .int 0, .int 0, .int 0, .int 0, .int 0])), (q1, .inl (cy 3, 5, .inr (.inr (.inr (.inr (va_up (va_up (va_up (va_up (fun _ => none) 0 (some q2)) 1 (some q5)) 2 (some q8)) 3 (some q11))))))), (q2, .inr (3, [.int (nI z_0), .ref q1_0, .ref q2_0, .ref q3_0])), (q1_0, .inl (cy 0, 150, .inl f_0)), (q2_0, .inl (cy 0, 24, .inl g_0)), (q3_0, .inl (cy 0, 24, .inl h_0)), (q5, .inr (3, [.int (nI z_1), .ref q1_1, .ref q2_1, .ref q3_1])), (q1_1, .inl (cy 0, 150, .inl f_1)), (q2_1, .inl (cy 0, 24, .inl g_1)), (q3_1, .inl (cy 0, 24, .inl h_1)), (q8, .inr (3, [.int (nI z_2), .ref q1_2, .ref q2_2, .ref q3_2])), (q1_2, .inl (cy 0, 150, .inl f_2)), (q2_2, .inl (cy 0, 24, .inl g_2)), (q3_2, .inl (cy 0, 24, .inl h_2)), (q11, .inr (3, [.int (nI z_3), .ref q1_3, .ref q2_3, .ref q3_3])), (q1_3, .inl (cy 0, 150, .inl f_3)), (q2_3, .inl (cy 0, 24, .inl g_3)), (q3_3, .inl (cy 0, 24, .inl h_3)), (q14, .inr (3, [.int 0, .null, .null, .null]))] := hD
  refine lv_dup hx hb dX1_init_58 rfl ?_
  refine lv_iconst (v := 4) hx hb dX1_init_59 (by decide) ?_
  refine kc_v (wc := [(q14, .inr (3, [.int 0, .null, .null, .null]))]) (wr := [(h0, .inr (1, [.null, .null, .null, .null, .int 0, .int 0, .int 0, .int 0, .int 0])), (q1, .inl (cy 3, 5, .inr (.inr (.inr (.inr (va_up (va_up (va_up (va_up (fun _ => none) 0 (some q2)) 1 (some q5)) 2 (some q8)) 3 (some q11))))))), (q2, .inr (3, [.int (nI z_0), .ref q1_0, .ref q2_0, .ref q3_0])), (q1_0, .inl (cy 0, 150, .inl f_0)), (q2_0, .inl (cy 0, 24, .inl g_0)), (q3_0, .inl (cy 0, 24, .inl h_0)), (q5, .inr (3, [.int (nI z_1), .ref q1_1, .ref q2_1, .ref q3_1])), (q1_1, .inl (cy 0, 150, .inl f_1)), (q2_1, .inl (cy 0, 24, .inl g_1)), (q3_1, .inl (cy 0, 24, .inl h_1)), (q8, .inr (3, [.int (nI z_2), .ref q1_2, .ref q2_2, .ref q3_2])), (q1_2, .inl (cy 0, 150, .inl f_2)), (q2_2, .inl (cy 0, 24, .inl g_2)), (q3_2, .inl (cy 0, 24, .inl h_2)), (q11, .inr (3, [.int (nI z_3), .ref q1_3, .ref q2_3, .ref q3_3])), (q1_3, .inl (cy 0, 150, .inl f_3)), (q2_3, .inl (cy 0, 24, .inl g_3)), (q3_3, .inl (cy 0, 24, .inl h_3))]) (va_runI (As := [.int 4]) (rest := [.ref q14, .int 4, .ref q1, .ref q1, .ref h0]) ⟨hx, hb, hml, hown, hts⟩ (c_X3_init l D cy H.size q14 4 (by decide)) (cwI 1 hts gX1_init_X3_init rfl rfl rfl ini_X3 m_11 im_X3_init rfl (by decide +kernel) ⟨Nat.le_of_ble_eq_true rfl, Nat.le_of_ble_eq_true rfl⟩) (cpre_S (wc := [(q14, .inr (3, [.int 0, .null, .null, .null]))]) hX hP hD hS hA [18] (by decide) rfl) rfl rfl hl.1 rfl (lv_room (Nat.le_of_ble_eq_true rfl)) dX1_init_60 ⟨Nat.le_of_ble_eq_true rfl, Nat.le_of_ble_eq_true rfl⟩) hP hD hS hA [18] [0, 1, 2, 3, 4, 5, 6, 7, 8, 9, 10, 11, 12, 13, 14, 15, 16, 17] rfl rfl (by decide) (by decide) (fun u16 H locs hw hP hD hS => ?_)
  obtain ⟨q1_4, q2_4, q3_4, z_4, f_4, g_4, h_4, hu, ha_4, hb_4, hc_4⟩ := hw
  subst hu
  refine W.widen (k := 21) (n := 1015) (Nat.le_of_ble_eq_true rfl) (Nat.le_of_ble_eq_true rfl) ?_
  have hP : va_P D vwCl [(h0, .inr (1, [.null, .null, .null, .null, .int 0, .int 0, .int 0, .int 0, .int 0])), (q1, .inl (cy 3, 5, .inr (.inr (.inr (.inr (va_up (va_up (va_up (va_up (fun _ => none) 0 (some q2)) 1 (some q5)) 2 (some q8)) 3 (some q11))))))), (q2, .inr (3, [.int (nI z_0), .ref q1_0, .ref q2_0, .ref q3_0])), (q1_0, .inl (cy 0, 150, .inl f_0)), (q2_0, .inl (cy 0, 24, .inl g_0)), (q3_0, .inl (cy 0, 24, .inl h_0)), (q5, .inr (3, [.int (nI z_1), .ref q1_1, .ref q2_1, .ref q3_1])), (q1_1, .inl (cy 0, 150, .inl f_1)), (q2_1, .inl (cy 0, 24, .inl g_1)), (q3_1, .inl (cy 0, 24, .inl h_1)), (q8, .inr (3, [.int (nI z_2), .ref q1_2, .ref q2_2, .ref q3_2])), (q1_2, .inl (cy 0, 150, .inl f_2)), (q2_2, .inl (cy 0, 24, .inl g_2)), (q3_2, .inl (cy 0, 24, .inl h_2)), (q11, .inr (3, [.int (nI z_3), .ref q1_3, .ref q2_3, .ref q3_3])), (q1_3, .inl (cy 0, 150, .inl f_3)), (q2_3, .inl (cy 0, 24, .inl g_3)), (q3_3, .inl (cy 0, 24, .inl h_3)), (q14, .inr (3, [.int (nI z_4), .ref q1_4, .ref q2_4, .ref q3_4])), (q1_4, .inl (cy 0, 150, .inl f_4)), (q2_4, .inl (cy 0, 24, .inl g_4)), (q3_4, .inl (cy 0, 24, .inl h_4))] H := hP
  have hD : va_D A [(h0, .inr (1, [.null, .null, .null, .null, .int 0, .int 0, .int 0, .int 0, .int 0])), (q1, .inl (cy 3, 5, .inr (.inr (.inr (.inr (va_up (va_up (va_up (va_up (fun _ => none) 0 (some q2)) 1 (some q5)) 2 (some q8)) 3 (some q11))))))), (q2, .inr (3, [.int (nI z_0), .ref q1_0, .ref q2_0, .ref q3_0])), (q1_0, .inl (cy 0, 150, .inl f_0)), (q2_0, .inl (cy 0, 24, .inl g_0)), (q3_0, .inl (cy 0, 24, .inl h_0)), (q5, .inr (3, [.int (nI z_1), .ref q1_1, .ref q2_1, .ref q3_1])), (q1_1, .inl (cy 0, 150, .inl f_1)), (q2_1, .inl (cy 0, 24, .inl g_1)), (q3_1, .inl (cy 0, 24, .inl h_1)), (q8, .inr (3, [.int (nI z_2), .ref q1_2, .ref q2_2, .ref q3_2])), (q1_2, .inl (cy 0, 150, .inl f_2)), (q2_2, .inl (cy 0, 24, .inl g_2)), (q3_2, .inl (cy 0, 24, .inl h_2)), (q11, .inr (3, [.int (nI z_3), .ref q1_3, .ref q2_3, .ref q3_3])), (q1_3, .inl (cy 0, 150, .inl f_3)), (q2_3, .inl (cy 0, 24, .inl g_3)), (q3_3, .inl (cy 0, 24, .inl h_3)), (q14, .inr (3, [.int (nI z_4), .ref q1_4, .ref q2_4, .ref q3_4])), (q1_4, .inl (cy 0, 150, .inl f_4)), (q2_4, .inl (cy 0, 24, .inl g_4)), (q3_4, .inl (cy 0, 24, .inl h_4))] := hD
  refine va_astq hx hb hK hP hD hS 1 3 18 3 rfl rfl rfl rfl (vi_c (by decide +kernel)) dX1_init_63 (fun H locs hP hD hS => ?_)
  have hP : va_P D vwCl [(h0, .inr (1, [.null, .null, .null, .null, .int 0, .int 0, .int 0, .int 0, .int 0])), (q1, .inl (cy 3, 5, .inr (.inr (.inr (.inr (va_up (va_up (va_up (va_up (va_up (fun _ => none) 0 (some q2)) 1 (some q5)) 2 (some q8)) 3 (some q11)) (4 : Int32).toNatClampNeg (some q14))))))), (q2, .inr (3, [.int (nI z_0), .ref q1_0, .ref q2_0, .ref q3_0])), (q1_0, .inl (cy 0, 150, .inl f_0)), (q2_0, .inl (cy 0, 24, .inl g_0)), (q3_0, .inl (cy 0, 24, .inl h_0)), (q5, .inr (3, [.int (nI z_1), .ref q1_1, .ref q2_1, .ref q3_1])), (q1_1, .inl (cy 0, 150, .inl f_1)), (q2_1, .inl (cy 0, 24, .inl g_1)), (q3_1, .inl (cy 0, 24, .inl h_1)), (q8, .inr (3, [.int (nI z_2), .ref q1_2, .ref q2_2, .ref q3_2])), (q1_2, .inl (cy 0, 150, .inl f_2)), (q2_2, .inl (cy 0, 24, .inl g_2)), (q3_2, .inl (cy 0, 24, .inl h_2)), (q11, .inr (3, [.int (nI z_3), .ref q1_3, .ref q2_3, .ref q3_3])), (q1_3, .inl (cy 0, 150, .inl f_3)), (q2_3, .inl (cy 0, 24, .inl g_3)), (q3_3, .inl (cy 0, 24, .inl h_3)), (q14, .inr (3, [.int (nI z_4), .ref q1_4, .ref q2_4, .ref q3_4])), (q1_4, .inl (cy 0, 150, .inl f_4)), (q2_4, .inl (cy 0, 24, .inl g_4)), (q3_4, .inl (cy 0, 24, .inl h_4))] H := hP
  have hD : va_D A [(h0, .inr (1, [.null, .null, .null, .null, .int 0, .int 0, .int 0, .int 0, .int 0])), (q1, .inl (cy 3, 5, .inr (.inr (.inr (.inr (va_up (va_up (va_up (va_up (va_up (fun _ => none) 0 (some q2)) 1 (some q5)) 2 (some q8)) 3 (some q11)) (4 : Int32).toNatClampNeg (some q14))))))), (q2, .inr (3, [.int (nI z_0), .ref q1_0, .ref q2_0, .ref q3_0])), (q1_0, .inl (cy 0, 150, .inl f_0)), (q2_0, .inl (cy 0, 24, .inl g_0)), (q3_0, .inl (cy 0, 24, .inl h_0)), (q5, .inr (3, [.int (nI z_1), .ref q1_1, .ref q2_1, .ref q3_1])), (q1_1, .inl (cy 0, 150, .inl f_1)), (q2_1, .inl (cy 0, 24, .inl g_1)), (q3_1, .inl (cy 0, 24, .inl h_1)), (q8, .inr (3, [.int (nI z_2), .ref q1_2, .ref q2_2, .ref q3_2])), (q1_2, .inl (cy 0, 150, .inl f_2)), (q2_2, .inl (cy 0, 24, .inl g_2)), (q3_2, .inl (cy 0, 24, .inl h_2)), (q11, .inr (3, [.int (nI z_3), .ref q1_3, .ref q2_3, .ref q3_3])), (q1_3, .inl (cy 0, 150, .inl f_3)), (q2_3, .inl (cy 0, 24, .inl g_3)), (q3_3, .inl (cy 0, 24, .inl h_3)), (q14, .inr (3, [.int (nI z_4), .ref q1_4, .ref q2_4, .ref q3_4])), (q1_4, .inl (cy 0, 150, .inl f_4)), (q2_4, .inl (cy 0, 24, .inl g_4)), (q3_4, .inl (cy 0, 24, .inl h_4))] := hD
  have hP : va_P D vwCl [(h0, .inr (1, [.null, .null, .null, .null, .int 0, .int 0, .int 0, .int 0, .int 0])), (q1, .inl (cy 3, 5, .inr (.inr (.inr (.inr (va_up (va_up (va_up (va_up (va_up (fun _ => none) 0 (some q2)) 1 (some q5)) 2 (some q8)) 3 (some q11)) 4 (some q14))))))), (q2, .inr (3, [.int (nI z_0), .ref q1_0, .ref q2_0, .ref q3_0])), (q1_0, .inl (cy 0, 150, .inl f_0)), (q2_0, .inl (cy 0, 24, .inl g_0)), (q3_0, .inl (cy 0, 24, .inl h_0)), (q5, .inr (3, [.int (nI z_1), .ref q1_1, .ref q2_1, .ref q3_1])), (q1_1, .inl (cy 0, 150, .inl f_1)), (q2_1, .inl (cy 0, 24, .inl g_1)), (q3_1, .inl (cy 0, 24, .inl h_1)), (q8, .inr (3, [.int (nI z_2), .ref q1_2, .ref q2_2, .ref q3_2])), (q1_2, .inl (cy 0, 150, .inl f_2)), (q2_2, .inl (cy 0, 24, .inl g_2)), (q3_2, .inl (cy 0, 24, .inl h_2)), (q11, .inr (3, [.int (nI z_3), .ref q1_3, .ref q2_3, .ref q3_3])), (q1_3, .inl (cy 0, 150, .inl f_3)), (q2_3, .inl (cy 0, 24, .inl g_3)), (q3_3, .inl (cy 0, 24, .inl h_3)), (q14, .inr (3, [.int (nI z_4), .ref q1_4, .ref q2_4, .ref q3_4])), (q1_4, .inl (cy 0, 150, .inl f_4)), (q2_4, .inl (cy 0, 24, .inl g_4)), (q3_4, .inl (cy 0, 24, .inl h_4))] H := hP
  have hD : va_D A [(h0, .inr (1, [.null, .null, .null, .null, .int 0, .int 0, .int 0, .int 0, .int 0])), (q1, .inl (cy 3, 5, .inr (.inr (.inr (.inr (va_up (va_up (va_up (va_up (va_up (fun _ => none) 0 (some q2)) 1 (some q5)) 2 (some q8)) 3 (some q11)) 4 (some q14))))))), (q2, .inr (3, [.int (nI z_0), .ref q1_0, .ref q2_0, .ref q3_0])), (q1_0, .inl (cy 0, 150, .inl f_0)), (q2_0, .inl (cy 0, 24, .inl g_0)), (q3_0, .inl (cy 0, 24, .inl h_0)), (q5, .inr (3, [.int (nI z_1), .ref q1_1, .ref q2_1, .ref q3_1])), (q1_1, .inl (cy 0, 150, .inl f_1)), (q2_1, .inl (cy 0, 24, .inl g_1)), (q3_1, .inl (cy 0, 24, .inl h_1)), (q8, .inr (3, [.int (nI z_2), .ref q1_2, .ref q2_2, .ref q3_2])), (q1_2, .inl (cy 0, 150, .inl f_2)), (q2_2, .inl (cy 0, 24, .inl g_2)), (q3_2, .inl (cy 0, 24, .inl h_2)), (q11, .inr (3, [.int (nI z_3), .ref q1_3, .ref q2_3, .ref q3_3])), (q1_3, .inl (cy 0, 150, .inl f_3)), (q2_3, .inl (cy 0, 24, .inl g_3)), (q3_3, .inl (cy 0, 24, .inl h_3)), (q14, .inr (3, [.int (nI z_4), .ref q1_4, .ref q2_4, .ref q3_4])), (q1_4, .inl (cy 0, 150, .inl f_4)), (q2_4, .inl (cy 0, 24, .inl g_4)), (q3_4, .inl (cy 0, 24, .inl h_4))] := hD
  refine va_putF (D := D) (ci := 1) (v := .ref q1) (ty := (.array (.object "CubeTower$Ways"))) (C := RX1) (T := TX1) (N := 9) hx hb hts hw_X1 tyX1 tyX1_ok nmX1 hown hK hP hD hS 0 rfl rfl 0 (by decide) f_14 (fun _ h9 => h9) rfl hin rfl (by decide +kernel) rfl rfl (Nat.le_of_ble_eq_true rfl) dX1_init_64 (fun H locs hP hD hS => ?_)
  have hP : va_P D vwCl [(h0, .inr (1, [.ref q1, .null, .null, .null, .int 0, .int 0, .int 0, .int 0, .int 0])), (q1, .inl (cy 3, 5, .inr (.inr (.inr (.inr (va_up (va_up (va_up (va_up (va_up (fun _ => none) 0 (some q2)) 1 (some q5)) 2 (some q8)) 3 (some q11)) 4 (some q14))))))), (q2, .inr (3, [.int (nI z_0), .ref q1_0, .ref q2_0, .ref q3_0])), (q1_0, .inl (cy 0, 150, .inl f_0)), (q2_0, .inl (cy 0, 24, .inl g_0)), (q3_0, .inl (cy 0, 24, .inl h_0)), (q5, .inr (3, [.int (nI z_1), .ref q1_1, .ref q2_1, .ref q3_1])), (q1_1, .inl (cy 0, 150, .inl f_1)), (q2_1, .inl (cy 0, 24, .inl g_1)), (q3_1, .inl (cy 0, 24, .inl h_1)), (q8, .inr (3, [.int (nI z_2), .ref q1_2, .ref q2_2, .ref q3_2])), (q1_2, .inl (cy 0, 150, .inl f_2)), (q2_2, .inl (cy 0, 24, .inl g_2)), (q3_2, .inl (cy 0, 24, .inl h_2)), (q11, .inr (3, [.int (nI z_3), .ref q1_3, .ref q2_3, .ref q3_3])), (q1_3, .inl (cy 0, 150, .inl f_3)), (q2_3, .inl (cy 0, 24, .inl g_3)), (q3_3, .inl (cy 0, 24, .inl h_3)), (q14, .inr (3, [.int (nI z_4), .ref q1_4, .ref q2_4, .ref q3_4])), (q1_4, .inl (cy 0, 150, .inl f_4)), (q2_4, .inl (cy 0, 24, .inl g_4)), (q3_4, .inl (cy 0, 24, .inl h_4))] H := hP
  have hD : va_D A [(h0, .inr (1, [.ref q1, .null, .null, .null, .int 0, .int 0, .int 0, .int 0, .int 0])), (q1, .inl (cy 3, 5, .inr (.inr (.inr (.inr (va_up (va_up (va_up (va_up (va_up (fun _ => none) 0 (some q2)) 1 (some q5)) 2 (some q8)) 3 (some q11)) 4 (some q14))))))), (q2, .inr (3, [.int (nI z_0), .ref q1_0, .ref q2_0, .ref q3_0])), (q1_0, .inl (cy 0, 150, .inl f_0)), (q2_0, .inl (cy 0, 24, .inl g_0)), (q3_0, .inl (cy 0, 24, .inl h_0)), (q5, .inr (3, [.int (nI z_1), .ref q1_1, .ref q2_1, .ref q3_1])), (q1_1, .inl (cy 0, 150, .inl f_1)), (q2_1, .inl (cy 0, 24, .inl g_1)), (q3_1, .inl (cy 0, 24, .inl h_1)), (q8, .inr (3, [.int (nI z_2), .ref q1_2, .ref q2_2, .ref q3_2])), (q1_2, .inl (cy 0, 150, .inl f_2)), (q2_2, .inl (cy 0, 24, .inl g_2)), (q3_2, .inl (cy 0, 24, .inl h_2)), (q11, .inr (3, [.int (nI z_3), .ref q1_3, .ref q2_3, .ref q3_3])), (q1_3, .inl (cy 0, 150, .inl f_3)), (q2_3, .inl (cy 0, 24, .inl g_3)), (q3_3, .inl (cy 0, 24, .inl h_3)), (q14, .inr (3, [.int (nI z_4), .ref q1_4, .ref q2_4, .ref q3_4])), (q1_4, .inl (cy 0, 150, .inl f_4)), (q2_4, .inl (cy 0, 24, .inl g_4)), (q3_4, .inl (cy 0, 24, .inl h_4))] := hD
  refine lv_aload_n hx hb dX1_init_67 rfl (lv_at hl 0 rfl) ?_
  refine lv_iconst (v := 3) hx hb dX1_init_68 (by decide) ?_
  refine nw_q (N' := 3) hx hb hX 3 rfl hown cl_9 hX.2.2.2.2.1 hP hD hS hA (by decide) (by decide) (by decide) (Nat.le_of_ble_eq_true rfl) (Nat.le_of_ble_eq_true rfl) dX1_init_69 (fun q17 H hP hD hS => ?_)
  refine W.widen (k := 22) (n := 1018) (Nat.le_of_ble_eq_true rfl) (Nat.le_of_ble_eq_true rfl) ?_
  have hP : va_P D vwCl [(h0, .inr (1, [.ref q1, .null, .null, .null, .int 0, .int 0, .int 0, .int 0, .int 0])), (q1, .inl (cy 3, 5, .inr (.inr (.inr (.inr (va_up (va_up (va_up (va_up (va_up (fun _ => none) 0 (some q2)) 1 (some q5)) 2 (some q8)) 3 (some q11)) 4 (some q14))))))), (q2, .inr (3, [.int (nI z_0), .ref q1_0, .ref q2_0, .ref q3_0])), (q1_0, .inl (cy 0, 150, .inl f_0)), (q2_0, .inl (cy 0, 24, .inl g_0)), (q3_0, .inl (cy 0, 24, .inl h_0)), (q5, .inr (3, [.int (nI z_1), .ref q1_1, .ref q2_1, .ref q3_1])), (q1_1, .inl (cy 0, 150, .inl f_1)), (q2_1, .inl (cy 0, 24, .inl g_1)), (q3_1, .inl (cy 0, 24, .inl h_1)), (q8, .inr (3, [.int (nI z_2), .ref q1_2, .ref q2_2, .ref q3_2])), (q1_2, .inl (cy 0, 150, .inl f_2)), (q2_2, .inl (cy 0, 24, .inl g_2)), (q3_2, .inl (cy 0, 24, .inl h_2)), (q11, .inr (3, [.int (nI z_3), .ref q1_3, .ref q2_3, .ref q3_3])), (q1_3, .inl (cy 0, 150, .inl f_3)), (q2_3, .inl (cy 0, 24, .inl g_3)), (q3_3, .inl (cy 0, 24, .inl h_3)), (q14, .inr (3, [.int (nI z_4), .ref q1_4, .ref q2_4, .ref q3_4])), (q1_4, .inl (cy 0, 150, .inl f_4)), (q2_4, .inl (cy 0, 24, .inl g_4)), (q3_4, .inl (cy 0, 24, .inl h_4)), (q17, .inl (cy 3, 3, .inr (.inr (.inr (.inr (fun _ => none))))))] H := hP
  have hD : va_D A [(h0, .inr (1, [.ref q1, .null, .null, .null, .int 0, .int 0, .int 0, .int 0, .int 0])), (q1, .inl (cy 3, 5, .inr (.inr (.inr (.inr (va_up (va_up (va_up (va_up (va_up (fun _ => none) 0 (some q2)) 1 (some q5)) 2 (some q8)) 3 (some q11)) 4 (some q14))))))), (q2, .inr (3, [.int (nI z_0), .ref q1_0, .ref q2_0, .ref q3_0])), (q1_0, .inl (cy 0, 150, .inl f_0)), (q2_0, .inl (cy 0, 24, .inl g_0)), (q3_0, .inl (cy 0, 24, .inl h_0)), (q5, .inr (3, [.int (nI z_1), .ref q1_1, .ref q2_1, .ref q3_1])), (q1_1, .inl (cy 0, 150, .inl f_1)), (q2_1, .inl (cy 0, 24, .inl g_1)), (q3_1, .inl (cy 0, 24, .inl h_1)), (q8, .inr (3, [.int (nI z_2), .ref q1_2, .ref q2_2, .ref q3_2])), (q1_2, .inl (cy 0, 150, .inl f_2)), (q2_2, .inl (cy 0, 24, .inl g_2)), (q3_2, .inl (cy 0, 24, .inl h_2)), (q11, .inr (3, [.int (nI z_3), .ref q1_3, .ref q2_3, .ref q3_3])), (q1_3, .inl (cy 0, 150, .inl f_3)), (q2_3, .inl (cy 0, 24, .inl g_3)), (q3_3, .inl (cy 0, 24, .inl h_3)), (q14, .inr (3, [.int (nI z_4), .ref q1_4, .ref q2_4, .ref q3_4])), (q1_4, .inl (cy 0, 150, .inl f_4)), (q2_4, .inl (cy 0, 24, .inl g_4)), (q3_4, .inl (cy 0, 24, .inl h_4)), (q17, .inl (cy 3, 3, .inr (.inr (.inr (.inr (fun _ => none))))))] := hD
  refine lv_dup hx hb dX1_init_72 rfl ?_
  refine lv_iconst (v := 0) hx hb dX1_init_73 (by decide) ?_
  refine lv_aload_n hx hb dX1_init_74 rfl (lv_at hl 0 rfl) ?_
  refine va_get (D := D) (ci := 1) (v := .ref q1) (C := RX1) (T := TX1) (N := 9) hx hb hts hw_X1 hown hK hP 0 rfl rfl 0 (by decide) f_14 (fun _ h9 => h9) rfl dX1_init_75 ?_
  refine lv_iconst (v := 3) hx hb dX1_init_78 (by decide) ?_
  refine va_aldq hx hb hK hP 1 3 rfl rfl (vi_c (by decide +kernel)) dX1_init_79 ?_
  refine kq (a := q11) (rfl) ?_
  refine va_astq hx hb hK hP hD hS 22 3 14 3 rfl rfl rfl rfl (vi_c (by decide +kernel)) dX1_init_80 (fun H locs hP hD hS => ?_)
  have hP : va_P D vwCl [(h0, .inr (1, [.ref q1, .null, .null, .null, .int 0, .int 0, .int 0, .int 0, .int 0])), (q1, .inl (cy 3, 5, .inr (.inr (.inr (.inr (va_up (va_up (va_up (va_up (va_up (fun _ => none) 0 (some q2)) 1 (some q5)) 2 (some q8)) 3 (some q11)) 4 (some q14))))))), (q2, .inr (3, [.int (nI z_0), .ref q1_0, .ref q2_0, .ref q3_0])), (q1_0, .inl (cy 0, 150, .inl f_0)), (q2_0, .inl (cy 0, 24, .inl g_0)), (q3_0, .inl (cy 0, 24, .inl h_0)), (q5, .inr (3, [.int (nI z_1), .ref q1_1, .ref q2_1, .ref q3_1])), (q1_1, .inl (cy 0, 150, .inl f_1)), (q2_1, .inl (cy 0, 24, .inl g_1)), (q3_1, .inl (cy 0, 24, .inl h_1)), (q8, .inr (3, [.int (nI z_2), .ref q1_2, .ref q2_2, .ref q3_2])), (q1_2, .inl (cy 0, 150, .inl f_2)), (q2_2, .inl (cy 0, 24, .inl g_2)), (q3_2, .inl (cy 0, 24, .inl h_2)), (q11, .inr (3, [.int (nI z_3), .ref q1_3, .ref q2_3, .ref q3_3])), (q1_3, .inl (cy 0, 150, .inl f_3)), (q2_3, .inl (cy 0, 24, .inl g_3)), (q3_3, .inl (cy 0, 24, .inl h_3)), (q14, .inr (3, [.int (nI z_4), .ref q1_4, .ref q2_4, .ref q3_4])), (q1_4, .inl (cy 0, 150, .inl f_4)), (q2_4, .inl (cy 0, 24, .inl g_4)), (q3_4, .inl (cy 0, 24, .inl h_4)), (q17, .inl (cy 3, 3, .inr (.inr (.inr (.inr (va_up (fun _ => none) (0 : Int32).toNatClampNeg (some q11)))))))] H := hP
  have hD : va_D A [(h0, .inr (1, [.ref q1, .null, .null, .null, .int 0, .int 0, .int 0, .int 0, .int 0])), (q1, .inl (cy 3, 5, .inr (.inr (.inr (.inr (va_up (va_up (va_up (va_up (va_up (fun _ => none) 0 (some q2)) 1 (some q5)) 2 (some q8)) 3 (some q11)) 4 (some q14))))))), (q2, .inr (3, [.int (nI z_0), .ref q1_0, .ref q2_0, .ref q3_0])), (q1_0, .inl (cy 0, 150, .inl f_0)), (q2_0, .inl (cy 0, 24, .inl g_0)), (q3_0, .inl (cy 0, 24, .inl h_0)), (q5, .inr (3, [.int (nI z_1), .ref q1_1, .ref q2_1, .ref q3_1])), (q1_1, .inl (cy 0, 150, .inl f_1)), (q2_1, .inl (cy 0, 24, .inl g_1)), (q3_1, .inl (cy 0, 24, .inl h_1)), (q8, .inr (3, [.int (nI z_2), .ref q1_2, .ref q2_2, .ref q3_2])), (q1_2, .inl (cy 0, 150, .inl f_2)), (q2_2, .inl (cy 0, 24, .inl g_2)), (q3_2, .inl (cy 0, 24, .inl h_2)), (q11, .inr (3, [.int (nI z_3), .ref q1_3, .ref q2_3, .ref q3_3])), (q1_3, .inl (cy 0, 150, .inl f_3)), (q2_3, .inl (cy 0, 24, .inl g_3)), (q3_3, .inl (cy 0, 24, .inl h_3)), (q14, .inr (3, [.int (nI z_4), .ref q1_4, .ref q2_4, .ref q3_4])), (q1_4, .inl (cy 0, 150, .inl f_4)), (q2_4, .inl (cy 0, 24, .inl g_4)), (q3_4, .inl (cy 0, 24, .inl h_4)), (q17, .inl (cy 3, 3, .inr (.inr (.inr (.inr (va_up (fun _ => none) (0 : Int32).toNatClampNeg (some q11)))))))] := hD
  have hP : va_P D vwCl [(h0, .inr (1, [.ref q1, .null, .null, .null, .int 0, .int 0, .int 0, .int 0, .int 0])), (q1, .inl (cy 3, 5, .inr (.inr (.inr (.inr (va_up (va_up (va_up (va_up (va_up (fun _ => none) 0 (some q2)) 1 (some q5)) 2 (some q8)) 3 (some q11)) 4 (some q14))))))), (q2, .inr (3, [.int (nI z_0), .ref q1_0, .ref q2_0, .ref q3_0])), (q1_0, .inl (cy 0, 150, .inl f_0)), (q2_0, .inl (cy 0, 24, .inl g_0)), (q3_0, .inl (cy 0, 24, .inl h_0)), (q5, .inr (3, [.int (nI z_1), .ref q1_1, .ref q2_1, .ref q3_1])), (q1_1, .inl (cy 0, 150, .inl f_1)), (q2_1, .inl (cy 0, 24, .inl g_1)), (q3_1, .inl (cy 0, 24, .inl h_1)), (q8, .inr (3, [.int (nI z_2), .ref q1_2, .ref q2_2, .ref q3_2])), (q1_2, .inl (cy 0, 150, .inl f_2)), (q2_2, .inl (cy 0, 24, .inl g_2)), (q3_2, .inl (cy 0, 24, .inl h_2)), (q11, .inr (3, [.int (nI z_3), .ref q1_3, .ref q2_3, .ref q3_3])), (q1_3, .inl (cy 0, 150, .inl f_3)), (q2_3, .inl (cy 0, 24, .inl g_3)), (q3_3, .inl (cy 0, 24, .inl h_3)), (q14, .inr (3, [.int (nI z_4), .ref q1_4, .ref q2_4, .ref q3_4])), (q1_4, .inl (cy 0, 150, .inl f_4)), (q2_4, .inl (cy 0, 24, .inl g_4)), (q3_4, .inl (cy 0, 24, .inl h_4)), (q17, .inl (cy 3, 3, .inr (.inr (.inr (.inr (va_up (fun _ => none) 0 (some q11)))))))] H := hP
  have hD : va_D A [(h0, .inr (1, [.ref q1, .null, .null, .null, .int 0, .int 0, .int 0, .int 0, .int 0])), (q1, .inl (cy 3, 5, .inr (.inr (.inr (.inr (va_up (va_up (va_up (va_up (va_up (fun _ => none) 0 (some q2)) 1 (some q5)) 2 (some q8)) 3 (some q11)) 4 (some q14))))))), (q2, .inr (3, [.int (nI z_0), .ref q1_0, .ref q2_0, .ref q3_0])), (q1_0, .inl (cy 0, 150, .inl f_0)), (q2_0, .inl (cy 0, 24, .inl g_0)), (q3_0, .inl (cy 0, 24, .inl h_0)), (q5, .inr (3, [.int (nI z_1), .ref q1_1, .ref q2_1, .ref q3_1])), (q1_1, .inl (cy 0, 150, .inl f_1)), (q2_1, .inl (cy 0, 24, .inl g_1)), (q3_1, .inl (cy 0, 24, .inl h_1)), (q8, .inr (3, [.int (nI z_2), .ref q1_2, .ref q2_2, .ref q3_2])), (q1_2, .inl (cy 0, 150, .inl f_2)), (q2_2, .inl (cy 0, 24, .inl g_2)), (q3_2, .inl (cy 0, 24, .inl h_2)), (q11, .inr (3, [.int (nI z_3), .ref q1_3, .ref q2_3, .ref q3_3])), (q1_3, .inl (cy 0, 150, .inl f_3)), (q2_3, .inl (cy 0, 24, .inl g_3)), (q3_3, .inl (cy 0, 24, .inl h_3)), (q14, .inr (3, [.int (nI z_4), .ref q1_4, .ref q2_4, .ref q3_4])), (q1_4, .inl (cy 0, 150, .inl f_4)), (q2_4, .inl (cy 0, 24, .inl g_4)), (q3_4, .inl (cy 0, 24, .inl h_4)), (q17, .inl (cy 3, 3, .inr (.inr (.inr (.inr (va_up (fun _ => none) 0 (some q11)))))))] := hD
  refine lv_dup hx hb dX1_init_81 rfl ?_
  refine lv_iconst (v := 1) hx hb dX1_init_82 (by decide) ?_
  refine lv_aload_n hx hb dX1_init_83 rfl (lv_at hl 0 rfl) ?_
  refine va_get (D := D) (ci := 1) (v := .ref q1) (C := RX1) (T := TX1) (N := 9) hx hb hts hw_X1 hown hK hP 0 rfl rfl 0 (by decide) f_14 (fun _ h9 => h9) rfl dX1_init_84 ?_
  refine lv_iconst (v := 3) hx hb dX1_init_87 (by decide) ?_
  refine va_aldq hx hb hK hP 1 3 rfl rfl (vi_c (by decide +kernel)) dX1_init_88 ?_
  refine kq (a := q11) (rfl) ?_
  refine va_astq hx hb hK hP hD hS 22 3 14 3 rfl rfl rfl rfl (vi_c (by decide +kernel)) dX1_init_89 (fun H locs hP hD hS => ?_)
  have hP : va_P D vwCl [(h0, .inr (1, [.ref q1, .null, .null, .null, .int 0, .int 0, .int 0, .int 0, .int 0])), (q1, .inl (cy 3, 5, .inr (.inr (.inr (.inr (va_up (va_up (va_up (va_up (va_up (fun _ => none) 0 (some q2)) 1 (some q5)) 2 (some q8)) 3 (some q11)) 4 (some q14))))))), (q2, .inr (3, [.int (nI z_0), .ref q1_0, .ref q2_0, .ref q3_0])), (q1_0, .inl (cy 0, 150, .inl f_0)), (q2_0, .inl (cy 0, 24, .inl g_0)), (q3_0, .inl (cy 0, 24, .inl h_0)), (q5, .inr (3, [.int (nI z_1), .ref q1_1, .ref q2_1, .ref q3_1])), (q1_1, .inl (cy 0, 150, .inl f_1)), (q2_1, .inl (cy 0, 24, .inl g_1)), (q3_1, .inl (cy 0, 24, .inl h_1)), (q8, .inr (3, [.int (nI z_2), .ref q1_2, .ref q2_2, .ref q3_2])), (q1_2, .inl (cy 0, 150, .inl f_2)), (q2_2, .inl (cy 0, 24, .inl g_2)), (q3_2, .inl (cy 0, 24, .inl h_2)), (q11, .inr (3, [.int (nI z_3), .ref q1_3, .ref q2_3, .ref q3_3])), (q1_3, .inl (cy 0, 150, .inl f_3)), (q2_3, .inl (cy 0, 24, .inl g_3)), (q3_3, .inl (cy 0, 24, .inl h_3)), (q14, .inr (3, [.int (nI z_4), .ref q1_4, .ref q2_4, .ref q3_4])), (q1_4, .inl (cy 0, 150, .inl f_4)), (q2_4, .inl (cy 0, 24, .inl g_4)), (q3_4, .inl (cy 0, 24, .inl h_4)), (q17, .inl (cy 3, 3, .inr (.inr (.inr (.inr (va_up (va_up (fun _ => none) 0 (some q11)) (1 : Int32).toNatClampNeg (some q11)))))))] H := hP
  have hD : va_D A [(h0, .inr (1, [.ref q1, .null, .null, .null, .int 0, .int 0, .int 0, .int 0, .int 0])), (q1, .inl (cy 3, 5, .inr (.inr (.inr (.inr (va_up (va_up (va_up (va_up (va_up (fun _ => none) 0 (some q2)) 1 (some q5)) 2 (some q8)) 3 (some q11)) 4 (some q14))))))), (q2, .inr (3, [.int (nI z_0), .ref q1_0, .ref q2_0, .ref q3_0])), (q1_0, .inl (cy 0, 150, .inl f_0)), (q2_0, .inl (cy 0, 24, .inl g_0)), (q3_0, .inl (cy 0, 24, .inl h_0)), (q5, .inr (3, [.int (nI z_1), .ref q1_1, .ref q2_1, .ref q3_1])), (q1_1, .inl (cy 0, 150, .inl f_1)), (q2_1, .inl (cy 0, 24, .inl g_1)), (q3_1, .inl (cy 0, 24, .inl h_1)), (q8, .inr (3, [.int (nI z_2), .ref q1_2, .ref q2_2, .ref q3_2])), (q1_2, .inl (cy 0, 150, .inl f_2)), (q2_2, .inl (cy 0, 24, .inl g_2)), (q3_2, .inl (cy 0, 24, .inl h_2)), (q11, .inr (3, [.int (nI z_3), .ref q1_3, .ref q2_3, .ref q3_3])), (q1_3, .inl (cy 0, 150, .inl f_3)), (q2_3, .inl (cy 0, 24, .inl g_3)), (q3_3, .inl (cy 0, 24, .inl h_3)), (q14, .inr (3, [.int (nI z_4), .ref q1_4, .ref q2_4, .ref q3_4])), (q1_4, .inl (cy 0, 150, .inl f_4)), (q2_4, .inl (cy 0, 24, .inl g_4)), (q3_4, .inl (cy 0, 24, .inl h_4)), (q17, .inl (cy 3, 3, .inr (.inr (.inr (.inr (va_up (va_up (fun _ => none) 0 (some q11)) (1 : Int32).toNatClampNeg (some q11)))))))] := hD
  have hP : va_P D vwCl [(h0, .inr (1, [.ref q1, .null, .null, .null, .int 0, .int 0, .int 0, .int 0, .int 0])), (q1, .inl (cy 3, 5, .inr (.inr (.inr (.inr (va_up (va_up (va_up (va_up (va_up (fun _ => none) 0 (some q2)) 1 (some q5)) 2 (some q8)) 3 (some q11)) 4 (some q14))))))), (q2, .inr (3, [.int (nI z_0), .ref q1_0, .ref q2_0, .ref q3_0])), (q1_0, .inl (cy 0, 150, .inl f_0)), (q2_0, .inl (cy 0, 24, .inl g_0)), (q3_0, .inl (cy 0, 24, .inl h_0)), (q5, .inr (3, [.int (nI z_1), .ref q1_1, .ref q2_1, .ref q3_1])), (q1_1, .inl (cy 0, 150, .inl f_1)), (q2_1, .inl (cy 0, 24, .inl g_1)), (q3_1, .inl (cy 0, 24, .inl h_1)), (q8, .inr (3, [.int (nI z_2), .ref q1_2, .ref q2_2, .ref q3_2])), (q1_2, .inl (cy 0, 150, .inl f_2)), (q2_2, .inl (cy 0, 24, .inl g_2)), (q3_2, .inl (cy 0, 24, .inl h_2)), (q11, .inr (3, [.int (nI z_3), .ref q1_3, .ref q2_3, .ref q3_3])), (q1_3, .inl (cy 0, 150, .inl f_3)), (q2_3, .inl (cy 0, 24, .inl g_3)), (q3_3, .inl (cy 0, 24, .inl h_3)), (q14, .inr (3, [.int (nI z_4), .ref q1_4, .ref q2_4, .ref q3_4])), (q1_4, .inl (cy 0, 150, .inl f_4)), (q2_4, .inl (cy 0, 24, .inl g_4)), (q3_4, .inl (cy 0, 24, .inl h_4)), (q17, .inl (cy 3, 3, .inr (.inr (.inr (.inr (va_up (va_up (fun _ => none) 0 (some q11)) 1 (some q11)))))))] H := hP
  have hD : va_D A [(h0, .inr (1, [.ref q1, .null, .null, .null, .int 0, .int 0, .int 0, .int 0, .int 0])), (q1, .inl (cy 3, 5, .inr (.inr (.inr (.inr (va_up (va_up (va_up (va_up (va_up (fun _ => none) 0 (some q2)) 1 (some q5)) 2 (some q8)) 3 (some q11)) 4 (some q14))))))), (q2, .inr (3, [.int (nI z_0), .ref q1_0, .ref q2_0, .ref q3_0])), (q1_0, .inl (cy 0, 150, .inl f_0)), (q2_0, .inl (cy 0, 24, .inl g_0)), (q3_0, .inl (cy 0, 24, .inl h_0)), (q5, .inr (3, [.int (nI z_1), .ref q1_1, .ref q2_1, .ref q3_1])), (q1_1, .inl (cy 0, 150, .inl f_1)), (q2_1, .inl (cy 0, 24, .inl g_1)), (q3_1, .inl (cy 0, 24, .inl h_1)), (q8, .inr (3, [.int (nI z_2), .ref q1_2, .ref q2_2, .ref q3_2])), (q1_2, .inl (cy 0, 150, .inl f_2)), (q2_2, .inl (cy 0, 24, .inl g_2)), (q3_2, .inl (cy 0, 24, .inl h_2)), (q11, .inr (3, [.int (nI z_3), .ref q1_3, .ref q2_3, .ref q3_3])), (q1_3, .inl (cy 0, 150, .inl f_3)), (q2_3, .inl (cy 0, 24, .inl g_3)), (q3_3, .inl (cy 0, 24, .inl h_3)), (q14, .inr (3, [.int (nI z_4), .ref q1_4, .ref q2_4, .ref q3_4])), (q1_4, .inl (cy 0, 150, .inl f_4)), (q2_4, .inl (cy 0, 24, .inl g_4)), (q3_4, .inl (cy 0, 24, .inl h_4)), (q17, .inl (cy 3, 3, .inr (.inr (.inr (.inr (va_up (va_up (fun _ => none) 0 (some q11)) 1 (some q11)))))))] := hD
  refine lv_dup hx hb dX1_init_90 rfl ?_
  refine lv_iconst (v := 2) hx hb dX1_init_91 (by decide) ?_
  refine lv_aload_n hx hb dX1_init_92 rfl (lv_at hl 0 rfl) ?_
  refine va_get (D := D) (ci := 1) (v := .ref q1) (C := RX1) (T := TX1) (N := 9) hx hb hts hw_X1 hown hK hP 0 rfl rfl 0 (by decide) f_14 (fun _ h9 => h9) rfl dX1_init_93 ?_
  refine lv_iconst (v := 3) hx hb dX1_init_96 (by decide) ?_
  refine va_aldq hx hb hK hP 1 3 rfl rfl (vi_c (by decide +kernel)) dX1_init_97 ?_
  refine kq (a := q11) (rfl) ?_
  refine va_astq hx hb hK hP hD hS 22 3 14 3 rfl rfl rfl rfl (vi_c (by decide +kernel)) dX1_init_98 (fun H locs hP hD hS => ?_)
  have hP : va_P D vwCl [(h0, .inr (1, [.ref q1, .null, .null, .null, .int 0, .int 0, .int 0, .int 0, .int 0])), (q1, .inl (cy 3, 5, .inr (.inr (.inr (.inr (va_up (va_up (va_up (va_up (va_up (fun _ => none) 0 (some q2)) 1 (some q5)) 2 (some q8)) 3 (some q11)) 4 (some q14))))))), (q2, .inr (3, [.int (nI z_0), .ref q1_0, .ref q2_0, .ref q3_0])), (q1_0, .inl (cy 0, 150, .inl f_0)), (q2_0, .inl (cy 0, 24, .inl g_0)), (q3_0, .inl (cy 0, 24, .inl h_0)), (q5, .inr (3, [.int (nI z_1), .ref q1_1, .ref q2_1, .ref q3_1])), (q1_1, .inl (cy 0, 150, .inl f_1)), (q2_1, .inl (cy 0, 24, .inl g_1)), (q3_1, .inl (cy 0, 24, .inl h_1)), (q8, .inr (3, [.int (nI z_2), .ref q1_2, .ref q2_2, .ref q3_2])), (q1_2, .inl (cy 0, 150, .inl f_2)), (q2_2, .inl (cy 0, 24, .inl g_2)), (q3_2, .inl (cy 0, 24, .inl h_2)), (q11, .inr (3, [.int (nI z_3), .ref q1_3, .ref q2_3, .ref q3_3])), (q1_3, .inl (cy 0, 150, .inl f_3)), (q2_3, .inl (cy 0, 24, .inl g_3)), (q3_3, .inl (cy 0, 24, .inl h_3)), (q14, .inr (3, [.int (nI z_4), .ref q1_4, .ref q2_4, .ref q3_4])), (q1_4, .inl (cy 0, 150, .inl f_4)), (q2_4, .inl (cy 0, 24, .inl g_4)), (q3_4, .inl (cy 0, 24, .inl h_4)), (q17, .inl (cy 3, 3, .inr (.inr (.inr (.inr (va_up (va_up (va_up (fun _ => none) 0 (some q11)) 1 (some q11)) (2 : Int32).toNatClampNeg (some q11)))))))] H := hP
  have hD : va_D A [(h0, .inr (1, [.ref q1, .null, .null, .null, .int 0, .int 0, .int 0, .int 0, .int 0])), (q1, .inl (cy 3, 5, .inr (.inr (.inr (.inr (va_up (va_up (va_up (va_up (va_up (fun _ => none) 0 (some q2)) 1 (some q5)) 2 (some q8)) 3 (some q11)) 4 (some q14))))))), (q2, .inr (3, [.int (nI z_0), .ref q1_0, .ref q2_0, .ref q3_0])), (q1_0, .inl (cy 0, 150, .inl f_0)), (q2_0, .inl (cy 0, 24, .inl g_0)), (q3_0, .inl (cy 0, 24, .inl h_0)), (q5, .inr (3, [.int (nI z_1), .ref q1_1, .ref q2_1, .ref q3_1])), (q1_1, .inl (cy 0, 150, .inl f_1)), (q2_1, .inl (cy 0, 24, .inl g_1)), (q3_1, .inl (cy 0, 24, .inl h_1)), (q8, .inr (3, [.int (nI z_2), .ref q1_2, .ref q2_2, .ref q3_2])), (q1_2, .inl (cy 0, 150, .inl f_2)), (q2_2, .inl (cy 0, 24, .inl g_2)), (q3_2, .inl (cy 0, 24, .inl h_2)), (q11, .inr (3, [.int (nI z_3), .ref q1_3, .ref q2_3, .ref q3_3])), (q1_3, .inl (cy 0, 150, .inl f_3)), (q2_3, .inl (cy 0, 24, .inl g_3)), (q3_3, .inl (cy 0, 24, .inl h_3)), (q14, .inr (3, [.int (nI z_4), .ref q1_4, .ref q2_4, .ref q3_4])), (q1_4, .inl (cy 0, 150, .inl f_4)), (q2_4, .inl (cy 0, 24, .inl g_4)), (q3_4, .inl (cy 0, 24, .inl h_4)), (q17, .inl (cy 3, 3, .inr (.inr (.inr (.inr (va_up (va_up (va_up (fun _ => none) 0 (some q11)) 1 (some q11)) (2 : Int32).toNatClampNeg (some q11)))))))] := hD
  have hP : va_P D vwCl [(h0, .inr (1, [.ref q1, .null, .null, .null, .int 0, .int 0, .int 0, .int 0, .int 0])), (q1, .inl (cy 3, 5, .inr (.inr (.inr (.inr (va_up (va_up (va_up (va_up (va_up (fun _ => none) 0 (some q2)) 1 (some q5)) 2 (some q8)) 3 (some q11)) 4 (some q14))))))), (q2, .inr (3, [.int (nI z_0), .ref q1_0, .ref q2_0, .ref q3_0])), (q1_0, .inl (cy 0, 150, .inl f_0)), (q2_0, .inl (cy 0, 24, .inl g_0)), (q3_0, .inl (cy 0, 24, .inl h_0)), (q5, .inr (3, [.int (nI z_1), .ref q1_1, .ref q2_1, .ref q3_1])), (q1_1, .inl (cy 0, 150, .inl f_1)), (q2_1, .inl (cy 0, 24, .inl g_1)), (q3_1, .inl (cy 0, 24, .inl h_1)), (q8, .inr (3, [.int (nI z_2), .ref q1_2, .ref q2_2, .ref q3_2])), (q1_2, .inl (cy 0, 150, .inl f_2)), (q2_2, .inl (cy 0, 24, .inl g_2)), (q3_2, .inl (cy 0, 24, .inl h_2)), (q11, .inr (3, [.int (nI z_3), .ref q1_3, .ref q2_3, .ref q3_3])), (q1_3, .inl (cy 0, 150, .inl f_3)), (q2_3, .inl (cy 0, 24, .inl g_3)), (q3_3, .inl (cy 0, 24, .inl h_3)), (q14, .inr (3, [.int (nI z_4), .ref q1_4, .ref q2_4, .ref q3_4])), (q1_4, .inl (cy 0, 150, .inl f_4)), (q2_4, .inl (cy 0, 24, .inl g_4)), (q3_4, .inl (cy 0, 24, .inl h_4)), (q17, .inl (cy 3, 3, .inr (.inr (.inr (.inr (va_up (va_up (va_up (fun _ => none) 0 (some q11)) 1 (some q11)) 2 (some q11)))))))] H := hP
  have hD : va_D A [(h0, .inr (1, [.ref q1, .null, .null, .null, .int 0, .int 0, .int 0, .int 0, .int 0])), (q1, .inl (cy 3, 5, .inr (.inr (.inr (.inr (va_up (va_up (va_up (va_up (va_up (fun _ => none) 0 (some q2)) 1 (some q5)) 2 (some q8)) 3 (some q11)) 4 (some q14))))))), (q2, .inr (3, [.int (nI z_0), .ref q1_0, .ref q2_0, .ref q3_0])), (q1_0, .inl (cy 0, 150, .inl f_0)), (q2_0, .inl (cy 0, 24, .inl g_0)), (q3_0, .inl (cy 0, 24, .inl h_0)), (q5, .inr (3, [.int (nI z_1), .ref q1_1, .ref q2_1, .ref q3_1])), (q1_1, .inl (cy 0, 150, .inl f_1)), (q2_1, .inl (cy 0, 24, .inl g_1)), (q3_1, .inl (cy 0, 24, .inl h_1)), (q8, .inr (3, [.int (nI z_2), .ref q1_2, .ref q2_2, .ref q3_2])), (q1_2, .inl (cy 0, 150, .inl f_2)), (q2_2, .inl (cy 0, 24, .inl g_2)), (q3_2, .inl (cy 0, 24, .inl h_2)), (q11, .inr (3, [.int (nI z_3), .ref q1_3, .ref q2_3, .ref q3_3])), (q1_3, .inl (cy 0, 150, .inl f_3)), (q2_3, .inl (cy 0, 24, .inl g_3)), (q3_3, .inl (cy 0, 24, .inl h_3)), (q14, .inr (3, [.int (nI z_4), .ref q1_4, .ref q2_4, .ref q3_4])), (q1_4, .inl (cy 0, 150, .inl f_4)), (q2_4, .inl (cy 0, 24, .inl g_4)), (q3_4, .inl (cy 0, 24, .inl h_4)), (q17, .inl (cy 3, 3, .inr (.inr (.inr (.inr (va_up (va_up (va_up (fun _ => none) 0 (some q11)) 1 (some q11)) 2 (some q11)))))))] := hD
  refine va_putF (D := D) (ci := 1) (v := .ref q17) (ty := (.array (.object "CubeTower$Ways"))) (C := RX1) (T := TX1) (N := 9) hx hb hts hw_X1 tyX1 tyX1_ok nmX1 hown hK hP hD hS 0 rfl rfl 1 (by decide) f_20 (fun _ h9 => h9) rfl hin rfl (by decide +kernel) rfl rfl (Nat.le_of_ble_eq_true rfl) dX1_init_99 (fun H locs hP hD hS => ?_)
  have hP : va_P D vwCl [(h0, .inr (1, [.ref q1, .ref q17, .null, .null, .int 0, .int 0, .int 0, .int 0, .int 0])), (q1, .inl (cy 3, 5, .inr (.inr (.inr (.inr (va_up (va_up (va_up (va_up (va_up (fun _ => none) 0 (some q2)) 1 (some q5)) 2 (some q8)) 3 (some q11)) 4 (some q14))))))), (q2, .inr (3, [.int (nI z_0), .ref q1_0, .ref q2_0, .ref q3_0])), (q1_0, .inl (cy 0, 150, .inl f_0)), (q2_0, .inl (cy 0, 24, .inl g_0)), (q3_0, .inl (cy 0, 24, .inl h_0)), (q5, .inr (3, [.int (nI z_1), .ref q1_1, .ref q2_1, .ref q3_1])), (q1_1, .inl (cy 0, 150, .inl f_1)), (q2_1, .inl (cy 0, 24, .inl g_1)), (q3_1, .inl (cy 0, 24, .inl h_1)), (q8, .inr (3, [.int (nI z_2), .ref q1_2, .ref q2_2, .ref q3_2])), (q1_2, .inl (cy 0, 150, .inl f_2)), (q2_2, .inl (cy 0, 24, .inl g_2)), (q3_2, .inl (cy 0, 24, .inl h_2)), (q11, .inr (3, [.int (nI z_3), .ref q1_3, .ref q2_3, .ref q3_3])), (q1_3, .inl (cy 0, 150, .inl f_3)), (q2_3, .inl (cy 0, 24, .inl g_3)), (q3_3, .inl (cy 0, 24, .inl h_3)), (q14, .inr (3, [.int (nI z_4), .ref q1_4, .ref q2_4, .ref q3_4])), (q1_4, .inl (cy 0, 150, .inl f_4)), (q2_4, .inl (cy 0, 24, .inl g_4)), (q3_4, .inl (cy 0, 24, .inl h_4)), (q17, .inl (cy 3, 3, .inr (.inr (.inr (.inr (va_up (va_up (va_up (fun _ => none) 0 (some q11)) 1 (some q11)) 2 (some q11)))))))] H := hP
  have hD : va_D A [(h0, .inr (1, [.ref q1, .ref q17, .null, .null, .int 0, .int 0, .int 0, .int 0, .int 0])), (q1, .inl (cy 3, 5, .inr (.inr (.inr (.inr (va_up (va_up (va_up (va_up (va_up (fun _ => none) 0 (some q2)) 1 (some q5)) 2 (some q8)) 3 (some q11)) 4 (some q14))))))), (q2, .inr (3, [.int (nI z_0), .ref q1_0, .ref q2_0, .ref q3_0])), (q1_0, .inl (cy 0, 150, .inl f_0)), (q2_0, .inl (cy 0, 24, .inl g_0)), (q3_0, .inl (cy 0, 24, .inl h_0)), (q5, .inr (3, [.int (nI z_1), .ref q1_1, .ref q2_1, .ref q3_1])), (q1_1, .inl (cy 0, 150, .inl f_1)), (q2_1, .inl (cy 0, 24, .inl g_1)), (q3_1, .inl (cy 0, 24, .inl h_1)), (q8, .inr (3, [.int (nI z_2), .ref q1_2, .ref q2_2, .ref q3_2])), (q1_2, .inl (cy 0, 150, .inl f_2)), (q2_2, .inl (cy 0, 24, .inl g_2)), (q3_2, .inl (cy 0, 24, .inl h_2)), (q11, .inr (3, [.int (nI z_3), .ref q1_3, .ref q2_3, .ref q3_3])), (q1_3, .inl (cy 0, 150, .inl f_3)), (q2_3, .inl (cy 0, 24, .inl g_3)), (q3_3, .inl (cy 0, 24, .inl h_3)), (q14, .inr (3, [.int (nI z_4), .ref q1_4, .ref q2_4, .ref q3_4])), (q1_4, .inl (cy 0, 150, .inl f_4)), (q2_4, .inl (cy 0, 24, .inl g_4)), (q3_4, .inl (cy 0, 24, .inl h_4)), (q17, .inl (cy 3, 3, .inr (.inr (.inr (.inr (va_up (va_up (va_up (fun _ => none) 0 (some q11)) 1 (some q11)) 2 (some q11)))))))] := hD
  refine lv_aload_n hx hb dX1_init_102 rfl (lv_at hl 0 rfl) ?_
  refine lv_iconst (v := 3) hx hb dX1_init_103 (by decide) ?_
  refine lv_bipush (v := 24) hx hb dX1_init_104 (by decide) ?_
  refine nw_m hx hb hX hown cl_23 ac_I hP hD hS hA (Nat.le_of_ble_eq_true rfl) (Nat.le_of_ble_eq_true rfl) dX1_init_106 (fun q18 q19 q20 q21 H hP hD hS => ?_)
  refine W.widen (k := 26) (n := 1093) (Nat.le_of_ble_eq_true rfl) (Nat.le_of_ble_eq_true rfl) ?_
  have hP : va_P D vwCl [(h0, .inr (1, [.ref q1, .ref q17, .null, .null, .int 0, .int 0, .int 0, .int 0, .int 0])), (q1, .inl (cy 3, 5, .inr (.inr (.inr (.inr (va_up (va_up (va_up (va_up (va_up (fun _ => none) 0 (some q2)) 1 (some q5)) 2 (some q8)) 3 (some q11)) 4 (some q14))))))), (q2, .inr (3, [.int (nI z_0), .ref q1_0, .ref q2_0, .ref q3_0])), (q1_0, .inl (cy 0, 150, .inl f_0)), (q2_0, .inl (cy 0, 24, .inl g_0)), (q3_0, .inl (cy 0, 24, .inl h_0)), (q5, .inr (3, [.int (nI z_1), .ref q1_1, .ref q2_1, .ref q3_1])), (q1_1, .inl (cy 0, 150, .inl f_1)), (q2_1, .inl (cy 0, 24, .inl g_1)), (q3_1, .inl (cy 0, 24, .inl h_1)), (q8, .inr (3, [.int (nI z_2), .ref q1_2, .ref q2_2, .ref q3_2])), (q1_2, .inl (cy 0, 150, .inl f_2)), (q2_2, .inl (cy 0, 24, .inl g_2)), (q3_2, .inl (cy 0, 24, .inl h_2)), (q11, .inr (3, [.int (nI z_3), .ref q1_3, .ref q2_3, .ref q3_3])), (q1_3, .inl (cy 0, 150, .inl f_3)), (q2_3, .inl (cy 0, 24, .inl g_3)), (q3_3, .inl (cy 0, 24, .inl h_3)), (q14, .inr (3, [.int (nI z_4), .ref q1_4, .ref q2_4, .ref q3_4])), (q1_4, .inl (cy 0, 150, .inl f_4)), (q2_4, .inl (cy 0, 24, .inl g_4)), (q3_4, .inl (cy 0, 24, .inl h_4)), (q17, .inl (cy 3, 3, .inr (.inr (.inr (.inr (va_up (va_up (va_up (fun _ => none) 0 (some q11)) 1 (some q11)) 2 (some q11))))))), (q18, .inl (cy 4, 3, .inr (.inr (.inr (.inr (va_up (va_up (va_up (fun _ => none) 0 (some q19)) 1 (some q20)) 2 (some q21))))))), (q19, .inl (cy 0, 24, .inl (fun _ => 0))), (q20, .inl (cy 0, 24, .inl (fun _ => 0))), (q21, .inl (cy 0, 24, .inl (fun _ => 0)))] H := hP
  have hD : va_D A [(h0, .inr (1, [.ref q1, .ref q17, .null, .null, .int 0, .int 0, .int 0, .int 0, .int 0])), (q1, .inl (cy 3, 5, .inr (.inr (.inr (.inr (va_up (va_up (va_up (va_up (va_up (fun _ => none) 0 (some q2)) 1 (some q5)) 2 (some q8)) 3 (some q11)) 4 (some q14))))))), (q2, .inr (3, [.int (nI z_0), .ref q1_0, .ref q2_0, .ref q3_0])), (q1_0, .inl (cy 0, 150, .inl f_0)), (q2_0, .inl (cy 0, 24, .inl g_0)), (q3_0, .inl (cy 0, 24, .inl h_0)), (q5, .inr (3, [.int (nI z_1), .ref q1_1, .ref q2_1, .ref q3_1])), (q1_1, .inl (cy 0, 150, .inl f_1)), (q2_1, .inl (cy 0, 24, .inl g_1)), (q3_1, .inl (cy 0, 24, .inl h_1)), (q8, .inr (3, [.int (nI z_2), .ref q1_2, .ref q2_2, .ref q3_2])), (q1_2, .inl (cy 0, 150, .inl f_2)), (q2_2, .inl (cy 0, 24, .inl g_2)), (q3_2, .inl (cy 0, 24, .inl h_2)), (q11, .inr (3, [.int (nI z_3), .ref q1_3, .ref q2_3, .ref q3_3])), (q1_3, .inl (cy 0, 150, .inl f_3)), (q2_3, .inl (cy 0, 24, .inl g_3)), (q3_3, .inl (cy 0, 24, .inl h_3)), (q14, .inr (3, [.int (nI z_4), .ref q1_4, .ref q2_4, .ref q3_4])), (q1_4, .inl (cy 0, 150, .inl f_4)), (q2_4, .inl (cy 0, 24, .inl g_4)), (q3_4, .inl (cy 0, 24, .inl h_4)), (q17, .inl (cy 3, 3, .inr (.inr (.inr (.inr (va_up (va_up (va_up (fun _ => none) 0 (some q11)) 1 (some q11)) 2 (some q11))))))), (q18, .inl (cy 4, 3, .inr (.inr (.inr (.inr (va_up (va_up (va_up (fun _ => none) 0 (some q19)) 1 (some q20)) 2 (some q21))))))), (q19, .inl (cy 0, 24, .inl (fun _ => 0))), (q20, .inl (cy 0, 24, .inl (fun _ => 0))), (q21, .inl (cy 0, 24, .inl (fun _ => 0)))] := hD
  refine va_putF (D := D) (ci := 1) (v := .ref q18) (ty := (.array (.array .int))) (C := RX1) (T := TX1) (N := 9) hx hb hts hw_X1 tyX1 tyX1_ok nmX1 hown hK hP hD hS 0 rfl rfl 2 (by decide) f_25 (fun _ h9 => h9) rfl hin rfl (by decide +kernel) rfl rfl (Nat.le_of_ble_eq_true rfl) dX1_init_110 (fun H locs hP hD hS => ?_)
  have hP : va_P D vwCl [(h0, .inr (1, [.ref q1, .ref q17, .ref q18, .null, .int 0, .int 0, .int 0, .int 0, .int 0])), (q1, .inl (cy 3, 5, .inr (.inr (.inr (.inr (va_up (va_up (va_up (va_up (va_up (fun _ => none) 0 (some q2)) 1 (some q5)) 2 (some q8)) 3 (some q11)) 4 (some q14))))))), (q2, .inr (3, [.int (nI z_0), .ref q1_0, .ref q2_0, .ref q3_0])), (q1_0, .inl (cy 0, 150, .inl f_0)), (q2_0, .inl (cy 0, 24, .inl g_0)), (q3_0, .inl (cy 0, 24, .inl h_0)), (q5, .inr (3, [.int (nI z_1), .ref q1_1, .ref q2_1, .ref q3_1])), (q1_1, .inl (cy 0, 150, .inl f_1)), (q2_1, .inl (cy 0, 24, .inl g_1)), (q3_1, .inl (cy 0, 24, .inl h_1)), (q8, .inr (3, [.int (nI z_2), .ref q1_2, .ref q2_2, .ref q3_2])), (q1_2, .inl (cy 0, 150, .inl f_2)), (q2_2, .inl (cy 0, 24, .inl g_2)), (q3_2, .inl (cy 0, 24, .inl h_2)), (q11, .inr (3, [.int (nI z_3), .ref q1_3, .ref q2_3, .ref q3_3])), (q1_3, .inl (cy 0, 150, .inl f_3)), (q2_3, .inl (cy 0, 24, .inl g_3)), (q3_3, .inl (cy 0, 24, .inl h_3)), (q14, .inr (3, [.int (nI z_4), .ref q1_4, .ref q2_4, .ref q3_4])), (q1_4, .inl (cy 0, 150, .inl f_4)), (q2_4, .inl (cy 0, 24, .inl g_4)), (q3_4, .inl (cy 0, 24, .inl h_4)), (q17, .inl (cy 3, 3, .inr (.inr (.inr (.inr (va_up (va_up (va_up (fun _ => none) 0 (some q11)) 1 (some q11)) 2 (some q11))))))), (q18, .inl (cy 4, 3, .inr (.inr (.inr (.inr (va_up (va_up (va_up (fun _ => none) 0 (some q19)) 1 (some q20)) 2 (some q21))))))), (q19, .inl (cy 0, 24, .inl (fun _ => 0))), (q20, .inl (cy 0, 24, .inl (fun _ => 0))), (q21, .inl (cy 0, 24, .inl (fun _ => 0)))] H := hP
  have hD : va_D A [(h0, .inr (1, [.ref q1, .ref q17, .ref q18, .null, .int 0, .int 0, .int 0, .int 0, .int 0])), (q1, .inl (cy 3, 5, .inr (.inr (.inr (.inr (va_up (va_up (va_up (va_up (va_up (fun _ => none) 0 (some q2)) 1 (some q5)) 2 (some q8)) 3 (some q11)) 4 (some q14))))))), (q2, .inr (3, [.int (nI z_0), .ref q1_0, .ref q2_0, .ref q3_0])), (q1_0, .inl (cy 0, 150, .inl f_0)), (q2_0, .inl (cy 0, 24, .inl g_0)), (q3_0, .inl (cy 0, 24, .inl h_0)), (q5, .inr (3, [.int (nI z_1), .ref q1_1, .ref q2_1, .ref q3_1])), (q1_1, .inl (cy 0, 150, .inl f_1)), (q2_1, .inl (cy 0, 24, .inl g_1)), (q3_1, .inl (cy 0, 24, .inl h_1)), (q8, .inr (3, [.int (nI z_2), .ref q1_2, .ref q2_2, .ref q3_2])), (q1_2, .inl (cy 0, 150, .inl f_2)), (q2_2, .inl (cy 0, 24, .inl g_2)), (q3_2, .inl (cy 0, 24, .inl h_2)), (q11, .inr (3, [.int (nI z_3), .ref q1_3, .ref q2_3, .ref q3_3])), (q1_3, .inl (cy 0, 150, .inl f_3)), (q2_3, .inl (cy 0, 24, .inl g_3)), (q3_3, .inl (cy 0, 24, .inl h_3)), (q14, .inr (3, [.int (nI z_4), .ref q1_4, .ref q2_4, .ref q3_4])), (q1_4, .inl (cy 0, 150, .inl f_4)), (q2_4, .inl (cy 0, 24, .inl g_4)), (q3_4, .inl (cy 0, 24, .inl h_4)), (q17, .inl (cy 3, 3, .inr (.inr (.inr (.inr (va_up (va_up (va_up (fun _ => none) 0 (some q11)) 1 (some q11)) 2 (some q11))))))), (q18, .inl (cy 4, 3, .inr (.inr (.inr (.inr (va_up (va_up (va_up (fun _ => none) 0 (some q19)) 1 (some q20)) 2 (some q21))))))), (q19, .inl (cy 0, 24, .inl (fun _ => 0))), (q20, .inl (cy 0, 24, .inl (fun _ => 0))), (q21, .inl (cy 0, 24, .inl (fun _ => 0)))] := hD
  refine lv_aload_n hx hb dX1_init_113 rfl (lv_at hl 0 rfl) ?_
  refine lv_sipush (v := 576) hx hb dX1_init_114 (by decide) ?_
  refine nw_i (N' := 576) hx hb hX ac_I hP hD hS hA (by decide) (by decide) (by decide) (Nat.le_of_ble_eq_true rfl) (Nat.le_of_ble_eq_true rfl) dX1_init_117 (fun q22 H hP hD hS => ?_)
  refine W.widen (k := 27) (n := 1669) (Nat.le_of_ble_eq_true rfl) (Nat.le_of_ble_eq_true rfl) ?_
  have hP : va_P D vwCl [(h0, .inr (1, [.ref q1, .ref q17, .ref q18, .null, .int 0, .int 0, .int 0, .int 0, .int 0])), (q1, .inl (cy 3, 5, .inr (.inr (.inr (.inr (va_up (va_up (va_up (va_up (va_up (fun _ => none) 0 (some q2)) 1 (some q5)) 2 (some q8)) 3 (some q11)) 4 (some q14))))))), (q2, .inr (3, [.int (nI z_0), .ref q1_0, .ref q2_0, .ref q3_0])), (q1_0, .inl (cy 0, 150, .inl f_0)), (q2_0, .inl (cy 0, 24, .inl g_0)), (q3_0, .inl (cy 0, 24, .inl h_0)), (q5, .inr (3, [.int (nI z_1), .ref q1_1, .ref q2_1, .ref q3_1])), (q1_1, .inl (cy 0, 150, .inl f_1)), (q2_1, .inl (cy 0, 24, .inl g_1)), (q3_1, .inl (cy 0, 24, .inl h_1)), (q8, .inr (3, [.int (nI z_2), .ref q1_2, .ref q2_2, .ref q3_2])), (q1_2, .inl (cy 0, 150, .inl f_2)), (q2_2, .inl (cy 0, 24, .inl g_2)), (q3_2, .inl (cy 0, 24, .inl h_2)), (q11, .inr (3, [.int (nI z_3), .ref q1_3, .ref q2_3, .ref q3_3])), (q1_3, .inl (cy 0, 150, .inl f_3)), (q2_3, .inl (cy 0, 24, .inl g_3)), (q3_3, .inl (cy 0, 24, .inl h_3)), (q14, .inr (3, [.int (nI z_4), .ref q1_4, .ref q2_4, .ref q3_4])), (q1_4, .inl (cy 0, 150, .inl f_4)), (q2_4, .inl (cy 0, 24, .inl g_4)), (q3_4, .inl (cy 0, 24, .inl h_4)), (q17, .inl (cy 3, 3, .inr (.inr (.inr (.inr (va_up (va_up (va_up (fun _ => none) 0 (some q11)) 1 (some q11)) 2 (some q11))))))), (q18, .inl (cy 4, 3, .inr (.inr (.inr (.inr (va_up (va_up (va_up (fun _ => none) 0 (some q19)) 1 (some q20)) 2 (some q21))))))), (q19, .inl (cy 0, 24, .inl (fun _ => 0))), (q20, .inl (cy 0, 24, .inl (fun _ => 0))), (q21, .inl (cy 0, 24, .inl (fun _ => 0))), (q22, .inl (cy 0, 576, .inl (fun _ => 0)))] H := hP
  have hD : va_D A [(h0, .inr (1, [.ref q1, .ref q17, .ref q18, .null, .int 0, .int 0, .int 0, .int 0, .int 0])), (q1, .inl (cy 3, 5, .inr (.inr (.inr (.inr (va_up (va_up (va_up (va_up (va_up (fun _ => none) 0 (some q2)) 1 (some q5)) 2 (some q8)) 3 (some q11)) 4 (some q14))))))), (q2, .inr (3, [.int (nI z_0), .ref q1_0, .ref q2_0, .ref q3_0])), (q1_0, .inl (cy 0, 150, .inl f_0)), (q2_0, .inl (cy 0, 24, .inl g_0)), (q3_0, .inl (cy 0, 24, .inl h_0)), (q5, .inr (3, [.int (nI z_1), .ref q1_1, .ref q2_1, .ref q3_1])), (q1_1, .inl (cy 0, 150, .inl f_1)), (q2_1, .inl (cy 0, 24, .inl g_1)), (q3_1, .inl (cy 0, 24, .inl h_1)), (q8, .inr (3, [.int (nI z_2), .ref q1_2, .ref q2_2, .ref q3_2])), (q1_2, .inl (cy 0, 150, .inl f_2)), (q2_2, .inl (cy 0, 24, .inl g_2)), (q3_2, .inl (cy 0, 24, .inl h_2)), (q11, .inr (3, [.int (nI z_3), .ref q1_3, .ref q2_3, .ref q3_3])), (q1_3, .inl (cy 0, 150, .inl f_3)), (q2_3, .inl (cy 0, 24, .inl g_3)), (q3_3, .inl (cy 0, 24, .inl h_3)), (q14, .inr (3, [.int (nI z_4), .ref q1_4, .ref q2_4, .ref q3_4])), (q1_4, .inl (cy 0, 150, .inl f_4)), (q2_4, .inl (cy 0, 24, .inl g_4)), (q3_4, .inl (cy 0, 24, .inl h_4)), (q17, .inl (cy 3, 3, .inr (.inr (.inr (.inr (va_up (va_up (va_up (fun _ => none) 0 (some q11)) 1 (some q11)) 2 (some q11))))))), (q18, .inl (cy 4, 3, .inr (.inr (.inr (.inr (va_up (va_up (va_up (fun _ => none) 0 (some q19)) 1 (some q20)) 2 (some q21))))))), (q19, .inl (cy 0, 24, .inl (fun _ => 0))), (q20, .inl (cy 0, 24, .inl (fun _ => 0))), (q21, .inl (cy 0, 24, .inl (fun _ => 0))), (q22, .inl (cy 0, 576, .inl (fun _ => 0)))] := hD
  refine va_putF (D := D) (ci := 1) (v := .ref q22) (ty := (.array .int)) (C := RX1) (T := TX1) (N := 9) hx hb hts hw_X1 tyX1 tyX1_ok nmX1 hown hK hP hD hS 0 rfl rfl 3 (by decide) f_28 (fun _ h9 => h9) rfl hin rfl (by decide +kernel) rfl rfl (Nat.le_of_ble_eq_true rfl) dX1_init_119 (fun H locs hP hD hS => ?_)
  have hP : va_P D vwCl [(h0, .inr (1, [.ref q1, .ref q17, .ref q18, .ref q22, .int 0, .int 0, .int 0, .int 0, .int 0])), (q1, .inl (cy 3, 5, .inr (.inr (.inr (.inr (va_up (va_up (va_up (va_up (va_up (fun _ => none) 0 (some q2)) 1 (some q5)) 2 (some q8)) 3 (some q11)) 4 (some q14))))))), (q2, .inr (3, [.int (nI z_0), .ref q1_0, .ref q2_0, .ref q3_0])), (q1_0, .inl (cy 0, 150, .inl f_0)), (q2_0, .inl (cy 0, 24, .inl g_0)), (q3_0, .inl (cy 0, 24, .inl h_0)), (q5, .inr (3, [.int (nI z_1), .ref q1_1, .ref q2_1, .ref q3_1])), (q1_1, .inl (cy 0, 150, .inl f_1)), (q2_1, .inl (cy 0, 24, .inl g_1)), (q3_1, .inl (cy 0, 24, .inl h_1)), (q8, .inr (3, [.int (nI z_2), .ref q1_2, .ref q2_2, .ref q3_2])), (q1_2, .inl (cy 0, 150, .inl f_2)), (q2_2, .inl (cy 0, 24, .inl g_2)), (q3_2, .inl (cy 0, 24, .inl h_2)), (q11, .inr (3, [.int (nI z_3), .ref q1_3, .ref q2_3, .ref q3_3])), (q1_3, .inl (cy 0, 150, .inl f_3)), (q2_3, .inl (cy 0, 24, .inl g_3)), (q3_3, .inl (cy 0, 24, .inl h_3)), (q14, .inr (3, [.int (nI z_4), .ref q1_4, .ref q2_4, .ref q3_4])), (q1_4, .inl (cy 0, 150, .inl f_4)), (q2_4, .inl (cy 0, 24, .inl g_4)), (q3_4, .inl (cy 0, 24, .inl h_4)), (q17, .inl (cy 3, 3, .inr (.inr (.inr (.inr (va_up (va_up (va_up (fun _ => none) 0 (some q11)) 1 (some q11)) 2 (some q11))))))), (q18, .inl (cy 4, 3, .inr (.inr (.inr (.inr (va_up (va_up (va_up (fun _ => none) 0 (some q19)) 1 (some q20)) 2 (some q21))))))), (q19, .inl (cy 0, 24, .inl (fun _ => 0))), (q20, .inl (cy 0, 24, .inl (fun _ => 0))), (q21, .inl (cy 0, 24, .inl (fun _ => 0))), (q22, .inl (cy 0, 576, .inl (fun _ => 0)))] H := hP
  have hD : va_D A [(h0, .inr (1, [.ref q1, .ref q17, .ref q18, .ref q22, .int 0, .int 0, .int 0, .int 0, .int 0])), (q1, .inl (cy 3, 5, .inr (.inr (.inr (.inr (va_up (va_up (va_up (va_up (va_up (fun _ => none) 0 (some q2)) 1 (some q5)) 2 (some q8)) 3 (some q11)) 4 (some q14))))))), (q2, .inr (3, [.int (nI z_0), .ref q1_0, .ref q2_0, .ref q3_0])), (q1_0, .inl (cy 0, 150, .inl f_0)), (q2_0, .inl (cy 0, 24, .inl g_0)), (q3_0, .inl (cy 0, 24, .inl h_0)), (q5, .inr (3, [.int (nI z_1), .ref q1_1, .ref q2_1, .ref q3_1])), (q1_1, .inl (cy 0, 150, .inl f_1)), (q2_1, .inl (cy 0, 24, .inl g_1)), (q3_1, .inl (cy 0, 24, .inl h_1)), (q8, .inr (3, [.int (nI z_2), .ref q1_2, .ref q2_2, .ref q3_2])), (q1_2, .inl (cy 0, 150, .inl f_2)), (q2_2, .inl (cy 0, 24, .inl g_2)), (q3_2, .inl (cy 0, 24, .inl h_2)), (q11, .inr (3, [.int (nI z_3), .ref q1_3, .ref q2_3, .ref q3_3])), (q1_3, .inl (cy 0, 150, .inl f_3)), (q2_3, .inl (cy 0, 24, .inl g_3)), (q3_3, .inl (cy 0, 24, .inl h_3)), (q14, .inr (3, [.int (nI z_4), .ref q1_4, .ref q2_4, .ref q3_4])), (q1_4, .inl (cy 0, 150, .inl f_4)), (q2_4, .inl (cy 0, 24, .inl g_4)), (q3_4, .inl (cy 0, 24, .inl h_4)), (q17, .inl (cy 3, 3, .inr (.inr (.inr (.inr (va_up (va_up (va_up (fun _ => none) 0 (some q11)) 1 (some q11)) 2 (some q11))))))), (q18, .inl (cy 4, 3, .inr (.inr (.inr (.inr (va_up (va_up (va_up (fun _ => none) 0 (some q19)) 1 (some q20)) 2 (some q21))))))), (q19, .inl (cy 0, 24, .inl (fun _ => 0))), (q20, .inl (cy 0, 24, .inl (fun _ => 0))), (q21, .inl (cy 0, 24, .inl (fun _ => 0))), (q22, .inl (cy 0, 576, .inl (fun _ => 0)))] := hD
  have hP9 := hP.sub (ws' := [(h0, .inr (1, [.ref q1, .ref q17, .ref q18, .ref q22, .int 0, .int 0, .int 0, .int 0, .int 0])), (q1, .inl (cy 3, 5, .inr (.inr (.inr (.inr (va_up (va_up (va_up (va_up (va_up (fun _ => none) 0 (some q2)) 1 (some q5)) 2 (some q8)) 3 (some q11)) 4 (some q14))))))), (q2, .inr (3, [.int (nI z_0), .ref q1_0, .ref q2_0, .ref q3_0])), (q1_0, .inl (cy 0, 150, .inl f_0)), (q2_0, .inl (cy 0, 24, .inl g_0)), (q3_0, .inl (cy 0, 24, .inl h_0)), (q5, .inr (3, [.int (nI z_1), .ref q1_1, .ref q2_1, .ref q3_1])), (q1_1, .inl (cy 0, 150, .inl f_1)), (q2_1, .inl (cy 0, 24, .inl g_1)), (q3_1, .inl (cy 0, 24, .inl h_1)), (q8, .inr (3, [.int (nI z_2), .ref q1_2, .ref q2_2, .ref q3_2])), (q1_2, .inl (cy 0, 150, .inl f_2)), (q2_2, .inl (cy 0, 24, .inl g_2)), (q3_2, .inl (cy 0, 24, .inl h_2)), (q11, .inr (3, [.int (nI z_3), .ref q1_3, .ref q2_3, .ref q3_3])), (q1_3, .inl (cy 0, 150, .inl f_3)), (q2_3, .inl (cy 0, 24, .inl g_3)), (q3_3, .inl (cy 0, 24, .inl h_3)), (q14, .inr (3, [.int (nI z_4), .ref q1_4, .ref q2_4, .ref q3_4])), (q1_4, .inl (cy 0, 150, .inl f_4)), (q2_4, .inl (cy 0, 24, .inl g_4)), (q3_4, .inl (cy 0, 24, .inl h_4)), (q17, .inl (cy 3, 3, .inr (.inr (.inr (.inr (va_up (va_up (va_up (fun _ => none) 0 (some q11)) 1 (some q11)) 2 (some q11))))))), (q18, .inl (cy 4, 3, .inr (.inr (.inr (.inr (va_up (va_up (va_up (fun _ => none) 0 (some q19)) 1 (some q20)) 2 (some q21))))))), (q19, .inl (cy 0, 24, .inl (fun _ => 0))), (q20, .inl (cy 0, 24, .inl (fun _ => 0))), (q21, .inl (cy 0, 24, .inl (fun _ => 0))), (q22, .inl (cy 0, 576, .inl (fun _ => 0)))]) [0, 1, 2, 3, 4, 5, 6, 7, 8, 9, 10, 11, 12, 13, 14, 15, 16, 17, 18, 19, 20, 21, 22, 23, 24, 25, 26, 27] rfl
  have hD9 := hD.sub (ws' := [(h0, .inr (1, [.ref q1, .ref q17, .ref q18, .ref q22, .int 0, .int 0, .int 0, .int 0, .int 0])), (q1, .inl (cy 3, 5, .inr (.inr (.inr (.inr (va_up (va_up (va_up (va_up (va_up (fun _ => none) 0 (some q2)) 1 (some q5)) 2 (some q8)) 3 (some q11)) 4 (some q14))))))), (q2, .inr (3, [.int (nI z_0), .ref q1_0, .ref q2_0, .ref q3_0])), (q1_0, .inl (cy 0, 150, .inl f_0)), (q2_0, .inl (cy 0, 24, .inl g_0)), (q3_0, .inl (cy 0, 24, .inl h_0)), (q5, .inr (3, [.int (nI z_1), .ref q1_1, .ref q2_1, .ref q3_1])), (q1_1, .inl (cy 0, 150, .inl f_1)), (q2_1, .inl (cy 0, 24, .inl g_1)), (q3_1, .inl (cy 0, 24, .inl h_1)), (q8, .inr (3, [.int (nI z_2), .ref q1_2, .ref q2_2, .ref q3_2])), (q1_2, .inl (cy 0, 150, .inl f_2)), (q2_2, .inl (cy 0, 24, .inl g_2)), (q3_2, .inl (cy 0, 24, .inl h_2)), (q11, .inr (3, [.int (nI z_3), .ref q1_3, .ref q2_3, .ref q3_3])), (q1_3, .inl (cy 0, 150, .inl f_3)), (q2_3, .inl (cy 0, 24, .inl g_3)), (q3_3, .inl (cy 0, 24, .inl h_3)), (q14, .inr (3, [.int (nI z_4), .ref q1_4, .ref q2_4, .ref q3_4])), (q1_4, .inl (cy 0, 150, .inl f_4)), (q2_4, .inl (cy 0, 24, .inl g_4)), (q3_4, .inl (cy 0, 24, .inl h_4)), (q17, .inl (cy 3, 3, .inr (.inr (.inr (.inr (va_up (va_up (va_up (fun _ => none) 0 (some q11)) 1 (some q11)) 2 (some q11))))))), (q18, .inl (cy 4, 3, .inr (.inr (.inr (.inr (va_up (va_up (va_up (fun _ => none) 0 (some q19)) 1 (some q20)) 2 (some q21))))))), (q19, .inl (cy 0, 24, .inl (fun _ => 0))), (q20, .inl (cy 0, 24, .inl (fun _ => 0))), (q21, .inl (cy 0, 24, .inl (fun _ => 0))), (q22, .inl (cy 0, 576, .inl (fun _ => 0)))]) [0, 1, 2, 3, 4, 5, 6, 7, 8, 9, 10, 11, 12, 13, 14, 15, 16, 17, 18, 19, 20, 21, 22, 23, 24, 25, 26, 27] (by decide) rfl
  exact W.vret hx hb hr (fun t9 ht9 hW9 => ⟨⟨[(h0, .inr (1, [.ref q1, .ref q17, .ref q18, .ref q22, .int 0, .int 0, .int 0, .int 0, .int 0])), (q1, .inl (cy 3, 5, .inr (.inr (.inr (.inr (va_up (va_up (va_up (va_up (va_up (fun _ => none) 0 (some q2)) 1 (some q5)) 2 (some q8)) 3 (some q11)) 4 (some q14))))))), (q2, .inr (3, [.int (nI z_0), .ref q1_0, .ref q2_0, .ref q3_0])), (q1_0, .inl (cy 0, 150, .inl f_0)), (q2_0, .inl (cy 0, 24, .inl g_0)), (q3_0, .inl (cy 0, 24, .inl h_0)), (q5, .inr (3, [.int (nI z_1), .ref q1_1, .ref q2_1, .ref q3_1])), (q1_1, .inl (cy 0, 150, .inl f_1)), (q2_1, .inl (cy 0, 24, .inl g_1)), (q3_1, .inl (cy 0, 24, .inl h_1)), (q8, .inr (3, [.int (nI z_2), .ref q1_2, .ref q2_2, .ref q3_2])), (q1_2, .inl (cy 0, 150, .inl f_2)), (q2_2, .inl (cy 0, 24, .inl g_2)), (q3_2, .inl (cy 0, 24, .inl h_2)), (q11, .inr (3, [.int (nI z_3), .ref q1_3, .ref q2_3, .ref q3_3])), (q1_3, .inl (cy 0, 150, .inl f_3)), (q2_3, .inl (cy 0, 24, .inl g_3)), (q3_3, .inl (cy 0, 24, .inl h_3)), (q14, .inr (3, [.int (nI z_4), .ref q1_4, .ref q2_4, .ref q3_4])), (q1_4, .inl (cy 0, 150, .inl f_4)), (q2_4, .inl (cy 0, 24, .inl g_4)), (q3_4, .inl (cy 0, 24, .inl h_4)), (q17, .inl (cy 3, 3, .inr (.inr (.inr (.inr (va_up (va_up (va_up (fun _ => none) 0 (some q11)) 1 (some q11)) 2 (some q11))))))), (q18, .inl (cy 4, 3, .inr (.inr (.inr (.inr (va_up (va_up (va_up (fun _ => none) 0 (some q19)) 1 (some q20)) 2 (some q21))))))), (q19, .inl (cy 0, 24, .inl (fun _ => 0))), (q20, .inl (cy 0, 24, .inl (fun _ => 0))), (q21, .inl (cy 0, 24, .inl (fun _ => 0))), (q22, .inl (cy 0, 576, .inl (fun _ => 0)))], rfl, ⟨q1, q17, q18, q19, q20, q21, q22, q2, q1_0, q2_0, q3_0, z_0, f_0, g_0, h_0, q5, q1_1, q2_1, q3_1, z_1, f_1, g_1, h_1, q8, q1_2, q2_2, q3_2, z_2, f_2, g_2, h_2, q11, q1_3, q2_3, q3_3, z_3, f_3, g_3, h_3, q14, q1_4, q2_4, q3_4, z_4, f_4, g_4, h_4, rfl, ha_0, hb_0, hc_0, ha_1, hb_1, hc_1, ha_2, hb_2, hc_2, ha_3, hb_3, hc_3, ha_4, hb_4, hc_4⟩, by rw [ht9]; exact hP9, hD9⟩, hS.F ht9⟩) hS.2.2 dX1_init_122
def q_X4_init (cy : Nat → ClassId) (h0 : Nat) : va_W → Prop := fun (u : va_W) => ∃ (pg : Nat), ∃ (t0 : Nat), ∃ (e0 : Nat), ∃ (c00 : Nat), ∃ (r00 : Nat), ∃ (c01 : Nat), ∃ (r01 : Nat), ∃ (c02 : Nat), ∃ (r02 : Nat), ∃ (t1 : Nat), ∃ (e1 : Nat), ∃ (c10 : Nat), ∃ (r10 : Nat), ∃ (c11 : Nat), ∃ (r11 : Nat), ∃ (c12 : Nat), ∃ (r12 : Nat), ∃ (t2 : Nat), ∃ (e2 : Nat), ∃ (c20 : Nat), ∃ (r20 : Nat), ∃ (c21 : Nat), ∃ (r21 : Nat), ∃ (c22 : Nat), ∃ (r22 : Nat), ∃ (sv : Nat), ∃ (wk : Nat), ∃ (wc : Nat), ∃ (wl : Nat), ∃ (l0 : Nat), ∃ (l1 : Nat), ∃ (l2 : Nat), ∃ (pr : Nat), ∃ (o0 : Nat), ∃ (a0 : Nat), ∃ (b0 : Nat), ∃ (d0 : Nat), ∃ (z0 : Nat), ∃ (f0 : Nat → Int32), ∃ (g0 : Nat → Int32), ∃ (y0 : Nat → Int32), ∃ (o1 : Nat), ∃ (a1 : Nat), ∃ (b1 : Nat), ∃ (d1 : Nat), ∃ (z1 : Nat), ∃ (f1 : Nat → Int32), ∃ (g1 : Nat → Int32), ∃ (y1 : Nat → Int32), ∃ (o2 : Nat), ∃ (a2 : Nat), ∃ (b2 : Nat), ∃ (d2 : Nat), ∃ (z2 : Nat), ∃ (f2 : Nat → Int32), ∃ (g2 : Nat → Int32), ∃ (y2 : Nat → Int32), ∃ (o3 : Nat), ∃ (a3 : Nat), ∃ (b3 : Nat), ∃ (d3 : Nat), ∃ (z3 : Nat), ∃ (f3 : Nat → Int32), ∃ (g3 : Nat → Int32), ∃ (y3 : Nat → Int32), ∃ (o4 : Nat), ∃ (a4 : Nat), ∃ (b4 : Nat), ∃ (d4 : Nat), ∃ (z4 : Nat), ∃ (f4 : Nat → Int32), ∃ (g4 : Nat → Int32), ∃ (y4 : Nat → Int32), u = [(h0, .inr (4, [.ref pg, .int 0, .int 0, .int 0, .ref t0, .ref t1, .ref t2, .ref sv, .int 0])), (pg, .inl (cy 0, 26, .inl (fun _ => 0))), (t0, .inr (2, [.int 0, .int 0, .int 0, .ref e0])), (e0, .inl (cy 2, 3, .inr (.inr (.inr (.inr (va_up (va_up (va_up (fun _ => none) 0 (some c00)) 1 (some c01)) 2 (some c02))))))), (c00, .inr (0, [.int 0, .int 31, .ref r00])), (r00, .inl (cy 0, 6, .inl (fun _ => 0))), (c01, .inr (0, [.int 0, .int 31, .ref r01])), (r01, .inl (cy 0, 6, .inl (fun _ => 0))), (c02, .inr (0, [.int 0, .int 31, .ref r02])), (r02, .inl (cy 0, 6, .inl (fun _ => 0))), (t1, .inr (2, [.int 0, .int 0, .int 0, .ref e1])), (e1, .inl (cy 2, 3, .inr (.inr (.inr (.inr (va_up (va_up (va_up (fun _ => none) 0 (some c10)) 1 (some c11)) 2 (some c12))))))), (c10, .inr (0, [.int 0, .int 31, .ref r10])), (r10, .inl (cy 0, 6, .inl (fun _ => 0))), (c11, .inr (0, [.int 0, .int 31, .ref r11])), (r11, .inl (cy 0, 6, .inl (fun _ => 0))), (c12, .inr (0, [.int 0, .int 31, .ref r12])), (r12, .inl (cy 0, 6, .inl (fun _ => 0))), (t2, .inr (2, [.int 0, .int 0, .int 0, .ref e2])), (e2, .inl (cy 2, 3, .inr (.inr (.inr (.inr (va_up (va_up (va_up (fun _ => none) 0 (some c20)) 1 (some c21)) 2 (some c22))))))), (c20, .inr (0, [.int 0, .int 31, .ref r20])), (r20, .inl (cy 0, 6, .inl (fun _ => 0))), (c21, .inr (0, [.int 0, .int 31, .ref r21])), (r21, .inl (cy 0, 6, .inl (fun _ => 0))), (c22, .inr (0, [.int 0, .int 31, .ref r22])), (r22, .inl (cy 0, 6, .inl (fun _ => 0))), (sv, .inr (1, [.ref wk, .ref wc, .ref wl, .ref pr, .int 0, .int 0, .int 0, .int 0, .int 0])), (wk, .inl (cy 3, 5, .inr (.inr (.inr (.inr (va_up (va_up (va_up (va_up (va_up (fun _ => none) 0 (some o0)) 1 (some o1)) 2 (some o2)) 3 (some o3)) 4 (some o4))))))), (o0, .inr (3, [.int (nI z0), .ref a0, .ref b0, .ref d0])), (a0, .inl (cy 0, 150, .inl f0)), (b0, .inl (cy 0, 24, .inl g0)), (d0, .inl (cy 0, 24, .inl y0)), (o1, .inr (3, [.int (nI z1), .ref a1, .ref b1, .ref d1])), (a1, .inl (cy 0, 150, .inl f1)), (b1, .inl (cy 0, 24, .inl g1)), (d1, .inl (cy 0, 24, .inl y1)), (o2, .inr (3, [.int (nI z2), .ref a2, .ref b2, .ref d2])), (a2, .inl (cy 0, 150, .inl f2)), (b2, .inl (cy 0, 24, .inl g2)), (d2, .inl (cy 0, 24, .inl y2)), (o3, .inr (3, [.int (nI z3), .ref a3, .ref b3, .ref d3])), (a3, .inl (cy 0, 150, .inl f3)), (b3, .inl (cy 0, 24, .inl g3)), (d3, .inl (cy 0, 24, .inl y3)), (o4, .inr (3, [.int (nI z4), .ref a4, .ref b4, .ref d4])), (a4, .inl (cy 0, 150, .inl f4)), (b4, .inl (cy 0, 24, .inl g4)), (d4, .inl (cy 0, 24, .inl y4)), (wc, .inl (cy 3, 3, .inr (.inr (.inr (.inr (va_up (va_up (va_up (fun _ => none) 0 (some o3)) 1 (some o3)) 2 (some o3))))))), (wl, .inl (cy 4, 3, .inr (.inr (.inr (.inr (va_up (va_up (va_up (fun _ => none) 0 (some l0)) 1 (some l1)) 2 (some l2))))))), (l0, .inl (cy 0, 24, .inl (fun _ => 0))), (l1, .inl (cy 0, 24, .inl (fun _ => 0))), (l2, .inl (cy 0, 24, .inl (fun _ => 0))), (pr, .inl (cy 0, 576, .inl (fun _ => 0)))] ∧ 1 ≤ z0 ∧ z0 ≤ 24 ∧ (∀ j, okv (f0 j)) ∧ 1 ≤ z1 ∧ z1 ≤ 24 ∧ (∀ j, okv (f1 j)) ∧ 1 ≤ z2 ∧ z2 ≤ 24 ∧ (∀ j, okv (f2 j)) ∧ 1 ≤ z3 ∧ z3 ≤ 24 ∧ (∀ j, okv (f3 j)) ∧ 1 ≤ z4 ∧ z4 ≤ 24 ∧ (∀ j, okv (f4 j))
set_option maxHeartbeats 4000000 in
set_option maxRecDepth 100000 in
theorem c_X4_init (l : Launch) (D : va_G) (cy : Nat → ClassId) (sz : Nat) (h0 : Nat) : Met l yX4_init wsX4_init ({ frames := 5, cells := 53, slots := 1806, locals := 111 } : Room) (va_Pc [.ref h0] (cpre D cy [(h0, .inr (4, [.null, .int 0, .int 0, .int 0, .null, .null, .null, .null, .int 0]))] sz)) (va_Qv (q_X4_init cy h0) (cpost D (va_A [(h0, .inr (4, [.null, .int 0, .int 0, .int 0, .null, .null, .null, .null, .int 0]))] sz)) (va_A [(h0, .inr (4, [.null, .int 0, .int 0, .int 0, .null, .null, .null, .null, .int 0]))] sz)) 53 1806 (va_A [(h0, .inr (4, [.null, .int 0, .int 0, .int 0, .null, .null, .null, .null, .int 0]))] sz) := by
  refine Met.ofW (cc := cX4_init) (maxL := 1) (ret := none) (by decide) rfl ?_
  intro p e s m args below meth c s₁ B hml hv
  obtain ⟨rfl, hsz, hP, hD0, hX⟩ := hv
  have hx := B.exec
  have hb := B.bytes
  have hr := B.returns
  have hts := atoms_spec (ws := wsX4_init) B.pre
  have hown : s.vm.findClass RX4 = some m.cls := findClass_of_methodNamed B.named
  have hlocks := B.notSynchronized
  have hin : meth.name = "<init>" := (name_of_methodNamed B.named B.method).1
  subst hsz
  have hD := hD0.self (sz := s.heap.size)
  generalize hAe : va_A [(h0, .inr (4, [.null, .int 0, .int 0, .int 0, .null, .null, .null, .null, .int 0]))] s.heap.size = A at hD hX ⊢
  have hA : ∀ q : Nat, s.heap.size ≤ q → A q := fun q h => by rw [← hAe]; exact Or.inr h
  obtain ⟨H, hH⟩ : ∃ H : Heap, H = s.heap := ⟨_, rfl⟩
  have hS : va_S A s.heap H [] := hH ▸ va_S.rf
  have hK := hX.1
  have hP : va_P D vwCl [(h0, .inr (4, [.null, .int 0, .int 0, .int 0, .null, .null, .null, .null, .int 0]))] H := hH ▸ hP
  rw [← hH]
  have hw_X1 : ∀ w ∈ wsX10, w ∈ wsX4_init := by decide +kernel
  have hw_X2 : ∀ w ∈ wsX20, w ∈ wsX4_init := by decide +kernel
  have hw_X4 : ∀ w ∈ wsX40, w ∈ wsX4_init := by decide +kernel
  have m_3 := hts (.methodLink RX4 3 objectInit) (by decide +kernel)
  have oi_i := hts (.instanceMethod objectInit) (by decide +kernel)
  have oi_c := hts (.code objectInit ⟨#[0xb1]⟩ 1 none) (by decide +kernel)
  have ac_I := hts (.arrayClass .int) (by decide +kernel)
  have f_9 := hts (.fieldLink RX4 9 "CubeTower" "page" "[I") (by decide +kernel)
  have cl_13 := hts (.classLink RX4 13 RX2) (by decide +kernel)
  have ins_X2 := hts (.instantiable RX2 4) (by decide +kernel)
  have ini_X2 := hts (.initialized RX2) (by decide +kernel)
  have im_X2_init := hts (.instanceMethod yX2_init) (by decide +kernel)
  have f_16 := hts (.fieldLink RX4 16 "CubeTower" "now" "LCubeTower$Tower;") (by decide +kernel)
  have f_20 := hts (.fieldLink RX4 20 "CubeTower" "kept" "LCubeTower$Tower;") (by decide +kernel)
  have f_23 := hts (.fieldLink RX4 23 "CubeTower" "trial" "LCubeTower$Tower;") (by decide +kernel)
  have cl_26 := hts (.classLink RX4 26 RX1) (by decide +kernel)
  have ins_X1 := hts (.instantiable RX1 9) (by decide +kernel)
  have ini_X1 := hts (.initialized RX1) (by decide +kernel)
  have im_X1_init := hts (.instanceMethod yX1_init) (by decide +kernel)
  have f_29 := hts (.fieldLink RX4 29 "CubeTower" "survey" "LCubeTower$Survey;") (by decide +kernel)
  have hl := lv_entry ([.ref h0]) (n := 1) (Nat.le_of_ble_eq_true rfl)
  rw [lg_entry_eq]
  generalize (lg_sl ([.ref h0]) ++ List.replicate (1 - (lg_sl ([.ref h0])).length) Slot.unset).toArray = ls at hl ⊢
  have hl : lv_has ls 1 [(0, .ref h0)] := hl
  refine lv_aload_n hx hb dX4_init_0 rfl (lv_at hl 0 rfl) ?_
  refine W.objInit hx hb hown m_3 oi_i oi_c rfl (by rw [hml]; exact hl.1) rfl dX4_init_1 (Nat.le_of_ble_eq_true rfl) (Nat.le_of_ble_eq_true rfl) ?_
  refine W.eq (g2 := F0 m 4 ls []) rfl ?_
  refine lv_aload_n hx hb dX4_init_4 rfl (lv_at hl 0 rfl) ?_
  refine lv_bipush (v := 26) hx hb dX4_init_5 (by decide) ?_
  refine nw_i (N' := 26) hx hb hX ac_I hP hD hS hA (by decide) (by decide) (by decide) (Nat.le_of_ble_eq_true rfl) (Nat.le_of_ble_eq_true rfl) dX4_init_7 (fun q1 H hP hD hS => ?_)
  refine W.widen (k := 1) (n := 26) (Nat.le_of_ble_eq_true rfl) (Nat.le_of_ble_eq_true rfl) ?_
  have hP : va_P D vwCl [(h0, .inr (4, [.null, .int 0, .int 0, .int 0, .null, .null, .null, .null, .int 0])), (q1, .inl (cy 0, 26, .inl (fun _ => 0)))] H := hP
  have hD : va_D A [(h0, .inr (4, [.null, .int 0, .int 0, .int 0, .null, .null, .null, .null, .int 0])), (q1, .inl (cy 0, 26, .inl (fun _ => 0)))] := hD
  refine va_putF (D := D) (ci := 4) (v := .ref q1) (ty := (.array .int)) (C := RX4) (T := TX4) (N := 9) hx hb hts hw_X4 tyX4 tyX4_ok nmX4 hown hK hP hD hS 0 rfl rfl 0 (by decide) f_9 (fun _ h9 => h9) rfl hin rfl (by decide +kernel) rfl rfl (Nat.le_of_ble_eq_true rfl) dX4_init_9 (fun H locs hP hD hS => ?_)
  have hP : va_P D vwCl [(h0, .inr (4, [.ref q1, .int 0, .int 0, .int 0, .null, .null, .null, .null, .int 0])), (q1, .inl (cy 0, 26, .inl (fun _ => 0)))] H := hP
  have hD : va_D A [(h0, .inr (4, [.ref q1, .int 0, .int 0, .int 0, .null, .null, .null, .null, .int 0])), (q1, .inl (cy 0, 26, .inl (fun _ => 0)))] := hD
  refine lv_aload_n hx hb dX4_init_12 rfl (lv_at hl 0 rfl) ?_
  refine va_new (ci := 2) (fs := [.int 0, .int 0, .int 0, .null]) (C := RX2) (T := TX2) (N := 4) hx hb hts hw_X2 tyX2 tyX2_ok hown cl_13 ins_X2 ini_X2 hK hP hD hS hA rfl (fun j hj => by rcases (show j = 0 ∨ j = 1 ∨ j = 2 ∨ j = 3 by omega) with rfl | rfl | rfl | rfl <;> rfl) (Nat.le_of_ble_eq_true rfl) (Nat.le_of_ble_eq_true rfl) dX4_init_13 (fun q2 H hP hD hS => ?_)
  refine W.widen (k := 2) (n := 30) (Nat.le_of_ble_eq_true rfl) (Nat.le_of_ble_eq_true rfl) ?_
  have hP : va_P D vwCl [(h0, .inr (4, [.ref q1, .int 0, .int 0, .int 0, .null, .null, .null, .null, .int 0])), (q1, .inl (cy 0, 26, .inl (fun _ => 0))), (q2, .inr (2, [.int 0, .int 0, .int 0, .null]))] H := hP
  have hD : va_D A [(h0, .inr (4, [.ref q1, .int 0, .int 0, .int 0, .null, .null, .null, .null, .int 0])), (q1, .inl (cy 0, 26, .inl (fun _ => 0))), (q2, .inr (2, [.int 0, .int 0, .int 0, .null]))] := hD
  refine lv_dup hx hb dX4_init_16 rfl ?_
  refine kc_v (wc := [(q2, .inr (2, [.int 0, .int 0, .int 0, .null]))]) (wr := [(h0, .inr (4, [.ref q1, .int 0, .int 0, .int 0, .null, .null, .null, .null, .int 0])), (q1, .inl (cy 0, 26, .inl (fun _ => 0)))]) (va_runIN (As := []) (rest := [.ref q2, .ref h0]) ⟨hx, hb, hml, hown, hts⟩ (c_X2_init l D cy H.size q2 ) ⟨va_cnB 0 hts gX4_init_X2_init_n15 rfl rfl rfl hX.2.2.1.1 ini_X2 (by decide +kernel) ⟨Nat.le_of_ble_eq_true rfl, Nat.le_of_ble_eq_true rfl⟩, rfl, im_X2_init⟩ (cpre_S (wc := [(q2, .inr (2, [.int 0, .int 0, .int 0, .null]))]) hX hP hD hS hA [2] (by decide) rfl) rfl rfl hl.1 rfl (lv_room (Nat.le_of_ble_eq_true rfl)) dX4_init_17 ⟨Nat.le_of_ble_eq_true rfl, Nat.le_of_ble_eq_true rfl⟩) hP hD hS hA [2] [0, 1] rfl rfl (by decide) (by decide) (fun u4 H locs hw hP hD hS => ?_)
  obtain ⟨ar_0, c0_0, r0_0, c1_0, r1_0, c2_0, r2_0, hu⟩ := hw
  subst hu
  refine W.widen (k := 9) (n := 60) (Nat.le_of_ble_eq_true rfl) (Nat.le_of_ble_eq_true rfl) ?_
  have hP : va_P D vwCl [(h0, .inr (4, [.ref q1, .int 0, .int 0, .int 0, .null, .null, .null, .null, .int 0])), (q1, .inl (cy 0, 26, .inl (fun _ => 0))), (q2, .inr (2, [.int 0, .int 0, .int 0, .ref ar_0])), (ar_0, .inl (cy 2, 3, .inr (.inr (.inr (.inr (va_up (va_up (va_up (fun _ => none) 0 (some c0_0)) 1 (some c1_0)) 2 (some c2_0))))))), (c0_0, .inr (0, [.int 0, .int 31, .ref r0_0])), (r0_0, .inl (cy 0, 6, .inl (fun _ => 0))), (c1_0, .inr (0, [.int 0, .int 31, .ref r1_0])), (r1_0, .inl (cy 0, 6, .inl (fun _ => 0))), (c2_0, .inr (0, [.int 0, .int 31, .ref r2_0])), (r2_0, .inl (cy 0, 6, .inl (fun _ => 0)))] H := hP
  have hD : va_D A [(h0, .inr (4, [.ref q1, .int 0, .int 0, .int 0, .null, .null, .null, .null, .int 0])), (q1, .inl (cy 0, 26, .inl (fun _ => 0))), (q2, .inr (2, [.int 0, .int 0, .int 0, .ref ar_0])), (ar_0, .inl (cy 2, 3, .inr (.inr (.inr (.inr (va_up (va_up (va_up (fun _ => none) 0 (some c0_0)) 1 (some c1_0)) 2 (some c2_0))))))), (c0_0, .inr (0, [.int 0, .int 31, .ref r0_0])), (r0_0, .inl (cy 0, 6, .inl (fun _ => 0))), (c1_0, .inr (0, [.int 0, .int 31, .ref r1_0])), (r1_0, .inl (cy 0, 6, .inl (fun _ => 0))), (c2_0, .inr (0, [.int 0, .int 31, .ref r2_0])), (r2_0, .inl (cy 0, 6, .inl (fun _ => 0)))] := hD
  refine va_putF (D := D) (ci := 4) (v := .ref q2) (ty := (.object "CubeTower$Tower")) (C := RX4) (T := TX4) (N := 9) hx hb hts hw_X4 tyX4 tyX4_ok nmX4 hown hK hP hD hS 0 rfl rfl 4 (by decide) f_16 (fun _ h9 => h9) rfl hin rfl (by decide +kernel) rfl rfl (Nat.le_of_ble_eq_true rfl) dX4_init_20 (fun H locs hP hD hS => ?_)
  have hP : va_P D vwCl [(h0, .inr (4, [.ref q1, .int 0, .int 0, .int 0, .ref q2, .null, .null, .null, .int 0])), (q1, .inl (cy 0, 26, .inl (fun _ => 0))), (q2, .inr (2, [.int 0, .int 0, .int 0, .ref ar_0])), (ar_0, .inl (cy 2, 3, .inr (.inr (.inr (.inr (va_up (va_up (va_up (fun _ => none) 0 (some c0_0)) 1 (some c1_0)) 2 (some c2_0))))))), (c0_0, .inr (0, [.int 0, .int 31, .ref r0_0])), (r0_0, .inl (cy 0, 6, .inl (fun _ => 0))), (c1_0, .inr (0, [.int 0, .int 31, .ref r1_0])), (r1_0, .inl (cy 0, 6, .inl (fun _ => 0))), (c2_0, .inr (0, [.int 0, .int 31, .ref r2_0])), (r2_0, .inl (cy 0, 6, .inl (fun _ => 0)))] H := hP
  have hD : va_D A [(h0, .inr (4, [.ref q1, .int 0, .int 0, .int 0, .ref q2, .null, .null, .null, .int 0])), (q1, .inl (cy 0, 26, .inl (fun _ => 0))), (q2, .inr (2, [.int 0, .int 0, .int 0, .ref ar_0])), (ar_0, .inl (cy 2, 3, .inr (.inr (.inr (.inr (va_up (va_up (va_up (fun _ => none) 0 (some c0_0)) 1 (some c1_0)) 2 (some c2_0))))))), (c0_0, .inr (0, [.int 0, .int 31, .ref r0_0])), (r0_0, .inl (cy 0, 6, .inl (fun _ => 0))), (c1_0, .inr (0, [.int 0, .int 31, .ref r1_0])), (r1_0, .inl (cy 0, 6, .inl (fun _ => 0))), (c2_0, .inr (0, [.int 0, .int 31, .ref r2_0])), (r2_0, .inl (cy 0, 6, .inl (fun _ => 0)))] := hD
  refine lv_aload_n hx hb dX4_init_23 rfl (lv_at hl 0 rfl) ?_
  refine va_new (ci := 2) (fs := [.int 0, .int 0, .int 0, .null]) (C := RX2) (T := TX2) (N := 4) hx hb hts hw_X2 tyX2 tyX2_ok hown cl_13 ins_X2 ini_X2 hK hP hD hS hA rfl (fun j hj => by rcases (show j = 0 ∨ j = 1 ∨ j = 2 ∨ j = 3 by omega) with rfl | rfl | rfl | rfl <;> rfl) (Nat.le_of_ble_eq_true rfl) (Nat.le_of_ble_eq_true rfl) dX4_init_24 (fun q5 H hP hD hS => ?_)
  refine W.widen (k := 10) (n := 64) (Nat.le_of_ble_eq_true rfl) (Nat.le_of_ble_eq_true rfl) ?_
  have hP : va_P D vwCl [(h0, .inr (4, [.ref q1, .int 0, .int 0, .int 0, .ref q2, .null, .null, .null, .int 0])), (q1, .inl (cy 0, 26, .inl (fun _ => 0))), (q2, .inr (2, [.int 0, .int 0, .int 0, .ref ar_0])), (ar_0, .inl (cy 2, 3, .inr (.inr (.inr (.inr (va_up (va_up (va_up (fun _ => none) 0 (some c0_0)) 1 (some c1_0)) 2 (some c2_0))))))), (c0_0, .inr (0, [.int 0, .int 31, .ref r0_0])), (r0_0, .inl (cy 0, 6, .inl (fun _ => 0))), (c1_0, .inr (0, [.int 0, .int 31, .ref r1_0])), (r1_0, .inl (cy 0, 6, .inl (fun _ => 0))), (c2_0, .inr (0, [.int 0, .int 31, .ref r2_0])), (r2_0, .inl (cy 0, 6, .inl (fun _ => 0))), (q5, .inr (2, [.int 0, .int 0, .int 0, .null]))] H := hP
  have hD : va_D A [(h0, .inr (4, [.ref q1, .int 0, .int 0, .int 0, .ref q2, .null, .null, .null, .int 0])), (q1, .inl (cy 0, 26, .inl (fun _ => 0))), (q2, .inr (2, [.int 0, .int 0, .int 0, .ref ar_0])), (ar_0, .inl (cy 2, 3, .inr (.inr (.inr (.inr (va_up (va_up (va_up (fun _ => none) 0 (some c0_0)) 1 (some c1_0)) 2 (some c2_0))))))), (c0_0, .inr (0, [.int 0, .int 31, .ref r0_0])), (r0_0, .inl (cy 0, 6, .inl (fun _ => 0))), (c1_0, .inr (0, [.int 0, .int 31, .ref r1_0])), (r1_0, .inl (cy 0, 6, .inl (fun _ => 0))), (c2_0, .inr (0, [.int 0, .int 31, .ref r2_0])), (r2_0, .inl (cy 0, 6, .inl (fun _ => 0))), (q5, .inr (2, [.int 0, .int 0, .int 0, .null]))] := hD
  refine lv_dup hx hb dX4_init_27 rfl ?_
  refine kc_v (wc := [(q5, .inr (2, [.int 0, .int 0, .int 0, .null]))]) (wr := [(h0, .inr (4, [.ref q1, .int 0, .int 0, .int 0, .ref q2, .null, .null, .null, .int 0])), (q1, .inl (cy 0, 26, .inl (fun _ => 0))), (q2, .inr (2, [.int 0, .int 0, .int 0, .ref ar_0])), (ar_0, .inl (cy 2, 3, .inr (.inr (.inr (.inr (va_up (va_up (va_up (fun _ => none) 0 (some c0_0)) 1 (some c1_0)) 2 (some c2_0))))))), (c0_0, .inr (0, [.int 0, .int 31, .ref r0_0])), (r0_0, .inl (cy 0, 6, .inl (fun _ => 0))), (c1_0, .inr (0, [.int 0, .int 31, .ref r1_0])), (r1_0, .inl (cy 0, 6, .inl (fun _ => 0))), (c2_0, .inr (0, [.int 0, .int 31, .ref r2_0])), (r2_0, .inl (cy 0, 6, .inl (fun _ => 0)))]) (va_runIN (As := []) (rest := [.ref q5, .ref h0]) ⟨hx, hb, hml, hown, hts⟩ (c_X2_init l D cy H.size q5 ) ⟨va_cnB 0 hts gX4_init_X2_init_n15 rfl rfl rfl hX.2.2.1.1 ini_X2 (by decide +kernel) ⟨Nat.le_of_ble_eq_true rfl, Nat.le_of_ble_eq_true rfl⟩, rfl, im_X2_init⟩ (cpre_S (wc := [(q5, .inr (2, [.int 0, .int 0, .int 0, .null]))]) hX hP hD hS hA [10] (by decide) rfl) rfl rfl hl.1 rfl (lv_room (Nat.le_of_ble_eq_true rfl)) dX4_init_28 ⟨Nat.le_of_ble_eq_true rfl, Nat.le_of_ble_eq_true rfl⟩) hP hD hS hA [10] [0, 1, 2, 3, 4, 5, 6, 7, 8, 9] rfl rfl (by decide) (by decide) (fun u7 H locs hw hP hD hS => ?_)
  obtain ⟨ar_1, c0_1, r0_1, c1_1, r1_1, c2_1, r2_1, hu⟩ := hw
  subst hu
  refine W.widen (k := 17) (n := 94) (Nat.le_of_ble_eq_true rfl) (Nat.le_of_ble_eq_true rfl) ?_
  have hP : va_P D vwCl [(h0, .inr (4, [.ref q1, .int 0, .int 0, .int 0, .ref q2, .null, .null, .null, .int 0])), (q1, .inl (cy 0, 26, .inl (fun _ => 0))), (q2, .inr (2, [.int 0, .int 0, .int 0, .ref ar_0])), (ar_0, .inl (cy 2, 3, .inr (.inr (.inr (.inr (va_up (va_up (va_up (fun _ => none) 0 (some c0_0)) 1 (some c1_0)) 2 (some c2_0))))))), (c0_0, .inr (0, [.int 0, .int 31, .ref r0_0])), (r0_0, .inl (cy 0, 6, .inl (fun _ => 0))), (c1_0, .inr (0, [.int 0, .int 31, .ref r1_0])), (r1_0, .inl (cy 0, 6, .inl (fun _ => 0))), (c2_0, .inr (0, [.int 0, .int 31, .ref r2_0])), (r2_0, .inl (cy 0, 6, .inl (fun _ => 0))), (q5, .inr (2, [.int 0, .int 0, .int 0, .ref ar_1])), (ar_1, .inl (cy 2, 3, .inr (.inr (.inr (.inr (va_up (va_up (va_up (fun _ => none) 0 (some c0_1)) 1 (some c1_1)) 2 (some c2_1))))))), (c0_1, .inr (0, [.int 0, .int 31, .ref r0_1])), (r0_1, .inl (cy 0, 6, .inl (fun _ => 0))), (c1_1, .inr (0, [.int 0, .int 31, .ref r1_1])), (r1_1, .inl (cy 0, 6, .inl (fun _ => 0))), (c2_1, .inr (0, [.int 0, .int 31, .ref r2_1])), (r2_1, .inl (cy 0, 6, .inl (fun _ => 0)))] H := hP
  have hD : va_D A [(h0, .inr (4, [.ref q1, .int 0, .int 0, .int 0, .ref q2, .null, .null, .null, .int 0])), (q1, .inl (cy 0, 26, .inl (fun _ => 0))), (q2, .inr (2, [.int 0, .int 0, .int 0, .ref ar_0])), (ar_0, .inl (cy 2, 3, .inr (.inr (.inr (.inr (va_up (va_up (va_up (fun _ => none) 0 (some c0_0)) 1 (some c1_0)) 2 (some c2_0))))))), (c0_0, .inr (0, [.int 0, .int 31, .ref r0_0])), (r0_0, .inl (cy 0, 6, .inl (fun _ => 0))), (c1_0, .inr (0, [.int 0, .int 31, .ref r1_0])), (r1_0, .inl (cy 0, 6, .inl (fun _ => 0))), (c2_0, .inr (0, [.int 0, .int 31, .ref r2_0])), (r2_0, .inl (cy 0, 6, .inl (fun _ => 0))), (q5, .inr (2, [.int 0, .int 0, .int 0, .ref ar_1])), (ar_1, .inl (cy 2, 3, .inr (.inr (.inr (.inr (va_up (va_up (va_up (fun _ => none) 0 (some c0_1)) 1 (some c1_1)) 2 (some c2_1))))))), (c0_1, .inr (0, [.int 0, .int 31, .ref r0_1])), (r0_1, .inl (cy 0, 6, .inl (fun _ => 0))), (c1_1, .inr (0, [.int 0, .int 31, .ref r1_1])), (r1_1, .inl (cy 0, 6, .inl (fun _ => 0))), (c2_1, .inr (0, [.int 0, .int 31, .ref r2_1])), (r2_1, .inl (cy 0, 6, .inl (fun _ => 0)))] := hD
  refine va_putF (D := D) (ci := 4) (v := .ref q5) (ty := (.object "CubeTower$Tower")) (C := RX4) (T := TX4) (N := 9) hx hb hts hw_X4 tyX4 tyX4_ok nmX4 hown hK hP hD hS 0 rfl rfl 5 (by decide) f_20 (fun _ h9 => h9) rfl hin rfl (by decide +kernel) rfl rfl (Nat.le_of_ble_eq_true rfl) dX4_init_31 (fun H locs hP hD hS => ?_)
  have hP : va_P D vwCl [(h0, .inr (4, [.ref q1, .int 0, .int 0, .int 0, .ref q2, .ref q5, .null, .null, .int 0])), (q1, .inl (cy 0, 26, .inl (fun _ => 0))), (q2, .inr (2, [.int 0, .int 0, .int 0, .ref ar_0])), (ar_0, .inl (cy 2, 3, .inr (.inr (.inr (.inr (va_up (va_up (va_up (fun _ => none) 0 (some c0_0)) 1 (some c1_0)) 2 (some c2_0))))))), (c0_0, .inr (0, [.int 0, .int 31, .ref r0_0])), (r0_0, .inl (cy 0, 6, .inl (fun _ => 0))), (c1_0, .inr (0, [.int 0, .int 31, .ref r1_0])), (r1_0, .inl (cy 0, 6, .inl (fun _ => 0))), (c2_0, .inr (0, [.int 0, .int 31, .ref r2_0])), (r2_0, .inl (cy 0, 6, .inl (fun _ => 0))), (q5, .inr (2, [.int 0, .int 0, .int 0, .ref ar_1])), (ar_1, .inl (cy 2, 3, .inr (.inr (.inr (.inr (va_up (va_up (va_up (fun _ => none) 0 (some c0_1)) 1 (some c1_1)) 2 (some c2_1))))))), (c0_1, .inr (0, [.int 0, .int 31, .ref r0_1])), (r0_1, .inl (cy 0, 6, .inl (fun _ => 0))), (c1_1, .inr (0, [.int 0, .int 31, .ref r1_1])), (r1_1, .inl (cy 0, 6, .inl (fun _ => 0))), (c2_1, .inr (0, [.int 0, .int 31, .ref r2_1])), (r2_1, .inl (cy 0, 6, .inl (fun _ => 0)))] H := hP
  have hD : va_D A [(h0, .inr (4, [.ref q1, .int 0, .int 0, .int 0, .ref q2, .ref q5, .null, .null, .int 0])), (q1, .inl (cy 0, 26, .inl (fun _ => 0))), (q2, .inr (2, [.int 0, .int 0, .int 0, .ref ar_0])), (ar_0, .inl (cy 2, 3, .inr (.inr (.inr (.inr (va_up (va_up (va_up (fun _ => none) 0 (some c0_0)) 1 (some c1_0)) 2 (some c2_0))))))), (c0_0, .inr (0, [.int 0, .int 31, .ref r0_0])), (r0_0, .inl (cy 0, 6, .inl (fun _ => 0))), (c1_0, .inr (0, [.int 0, .int 31, .ref r1_0])), (r1_0, .inl (cy 0, 6, .inl (fun _ => 0))), (c2_0, .inr (0, [.int 0, .int 31, .ref r2_0])), (r2_0, .inl (cy 0, 6, .inl (fun _ => 0))), (q5, .inr (2, [.int 0, .int 0, .int 0, .ref ar_1])), (ar_1, .inl (cy 2, 3, .inr (.inr (.inr (.inr (va_up (va_up (va_up (fun _ => none) 0 (some c0_1)) 1 (some c1_1)) 2 (some c2_1))))))), (c0_1, .inr (0, [.int 0, .int 31, .ref r0_1])), (r0_1, .inl (cy 0, 6, .inl (fun _ => 0))), (c1_1, .inr (0, [.int 0, .int 31, .ref r1_1])), (r1_1, .inl (cy 0, 6, .inl (fun _ => 0))), (c2_1, .inr (0, [.int 0, .int 31, .ref r2_1])), (r2_1, .inl (cy 0, 6, .inl (fun _ => 0)))] := hD
  refine lv_aload_n hx hb dX4_init_34 rfl (lv_at hl 0 rfl) ?_
  refine va_new (ci := 2) (fs := [.int 0, .int 0, .int 0, .null]) (C := RX2) (T := TX2) (N := 4) hx hb hts hw_X2 tyX2 tyX2_ok hown cl_13 ins_X2 ini_X2 hK hP hD hS hA rfl (fun j hj => by rcases (show j = 0 ∨ j = 1 ∨ j = 2 ∨ j = 3 by omega) with rfl | rfl | rfl | rfl <;> rfl) (Nat.le_of_ble_eq_true rfl) (Nat.le_of_ble_eq_true rfl) dX4_init_35 (fun q8 H hP hD hS => ?_)
  refine W.widen (k := 18) (n := 98) (Nat.le_of_ble_eq_true rfl) (Nat.le_of_ble_eq_true rfl) ?_
  have hP : va_P D vwCl [(h0, .inr (4, [.ref q1, .int 0, .int 0, .int 0, .ref q2, .ref q5, .null, .null, .int 0])), (q1, .inl (cy 0, 26, .inl (fun _ => 0))), (q2, .inr (2, [.int 0, .int 0, .int 0, .ref ar_0])), (ar_0, .inl (cy 2, 3, .inr (.inr (.inr (.inr (va_up (va_up (va_up (fun _ => none) 0 (some c0_0)) 1 (some c1_0)) 2 (some c2_0))))))), (c0_0, .inr (0, [.int 0, .int 31, .ref r0_0])), (r0_0, .inl (cy 0, 6, .inl (fun _ => 0))), (c1_0, .inr (0, [.int 0, .int 31, .ref r1_0])), (r1_0, .inl (cy 0, 6, .inl (fun _ => 0))), (c2_0, .inr (0, [.int 0, .int 31, .ref r2_0])), (r2_0, .inl (cy 0, 6, .inl (fun _ => 0))), (q5, .inr (2, [.int 0, .int 0, .int 0, .ref ar_1])), (ar_1, .inl (cy 2, 3, .inr (.inr (.inr (.inr (va_up (va_up (va_up (fun _ => none) 0 (some c0_1)) 1 (some c1_1)) 2 (some c2_1))))))), (c0_1, .inr (0, [.int 0, .int 31, .ref r0_1])), (r0_1, .inl (cy 0, 6, .inl (fun _ => 0))), (c1_1, .inr (0, [.int 0, .int 31, .ref r1_1])), (r1_1, .inl (cy 0, 6, .inl (fun _ => 0))), (c2_1, .inr (0, [.int 0, .int 31, .ref r2_1])), (r2_1, .inl (cy 0, 6, .inl (fun _ => 0))), (q8, .inr (2, [.int 0, .int 0, .int 0, .null]))] H := hP
  have hD : va_D A [(h0, .inr (4, [.ref q1, .int 0, .int 0, .int 0, .ref q2, .ref q5, .null, .null, .int 0])), (q1, .inl (cy 0, 26, .inl (fun _ => 0))), (q2, .inr (2, [.int 0, .int 0, .int 0, .ref ar_0])), (ar_0, .inl (cy 2, 3, .inr (.inr (.inr (.inr (va_up (va_up (va_up (fun _ => none) 0 (some c0_0)) 1 (some c1_0)) 2 (some c2_0))))))), (c0_0, .inr (0, [.int 0, .int 31, .ref r0_0])), (r0_0, .inl (cy 0, 6, .inl (fun _ => 0))), (c1_0, .inr (0, [.int 0, .int 31, .ref r1_0])), (r1_0, .inl (cy 0, 6, .inl (fun _ => 0))), (c2_0, .inr (0, [.int 0, .int 31, .ref r2_0])), (r2_0, .inl (cy 0, 6, .inl (fun _ => 0))), (q5, .inr (2, [.int 0, .int 0, .int 0, .ref ar_1])), (ar_1, .inl (cy 2, 3, .inr (.inr (.inr (.inr (va_up (va_up (va_up (fun _ => none) 0 (some c0_1)) 1 (some c1_1)) 2 (some c2_1))))))), (c0_1, .inr (0, [.int 0, .int 31, .ref r0_1])), (r0_1, .inl (cy 0, 6, .inl (fun _ => 0))), (c1_1, .inr (0, [.int 0, .int 31, .ref r1_1])), (r1_1, .inl (cy 0, 6, .inl (fun _ => 0))), (c2_1, .inr (0, [.int 0, .int 31, .ref r2_1])), (r2_1, .inl (cy 0, 6, .inl (fun _ => 0))), (q8, .inr (2, [.int 0, .int 0, .int 0, .null]))] := hD
  refine lv_dup hx hb dX4_init_38 rfl ?_
  refine kc_v (wc := [(q8, .inr (2, [.int 0, .int 0, .int 0, .null]))]) (wr := [(h0, .inr (4, [.ref q1, .int 0, .int 0, .int 0, .ref q2, .ref q5, .null, .null, .int 0])), (q1, .inl (cy 0, 26, .inl (fun _ => 0))), (q2, .inr (2, [.int 0, .int 0, .int 0, .ref ar_0])), (ar_0, .inl (cy 2, 3, .inr (.inr (.inr (.inr (va_up (va_up (va_up (fun _ => none) 0 (some c0_0)) 1 (some c1_0)) 2 (some c2_0))))))), (c0_0, .inr (0, [.int 0, .int 31, .ref r0_0])), (r0_0, .inl (cy 0, 6, .inl (fun _ => 0))), (c1_0, .inr (0, [.int 0, .int 31, .ref r1_0])), (r1_0, .inl (cy 0, 6, .inl (fun _ => 0))), (c2_0, .inr (0, [.int 0, .int 31, .ref r2_0])), (r2_0, .inl (cy 0, 6, .inl (fun _ => 0))), (q5, .inr (2, [.int 0, .int 0, .int 0, .ref ar_1])), (ar_1, .inl (cy 2, 3, .inr (.inr (.inr (.inr (va_up (va_up (va_up (fun _ => none) 0 (some c0_1)) 1 (some c1_1)) 2 (some c2_1))))))), (c0_1, .inr (0, [.int 0, .int 31, .ref r0_1])), (r0_1, .inl (cy 0, 6, .inl (fun _ => 0))), (c1_1, .inr (0, [.int 0, .int 31, .ref r1_1])), (r1_1, .inl (cy 0, 6, .inl (fun _ => 0))), (c2_1, .inr (0, [.int 0, .int 31, .ref r2_1])), (r2_1, .inl (cy 0, 6, .inl (fun _ => 0)))]) (va_runIN (As := []) (rest := [.ref q8, .ref h0]) ⟨hx, hb, hml, hown, hts⟩ (c_X2_init l D cy H.size q8 ) ⟨va_cnB 0 hts gX4_init_X2_init_n15 rfl rfl rfl hX.2.2.1.1 ini_X2 (by decide +kernel) ⟨Nat.le_of_ble_eq_true rfl, Nat.le_of_ble_eq_true rfl⟩, rfl, im_X2_init⟩ (cpre_S (wc := [(q8, .inr (2, [.int 0, .int 0, .int 0, .null]))]) hX hP hD hS hA [18] (by decide) rfl) rfl rfl hl.1 rfl (lv_room (Nat.le_of_ble_eq_true rfl)) dX4_init_39 ⟨Nat.le_of_ble_eq_true rfl, Nat.le_of_ble_eq_true rfl⟩) hP hD hS hA [18] [0, 1, 2, 3, 4, 5, 6, 7, 8, 9, 10, 11, 12, 13, 14, 15, 16, 17] rfl rfl (by decide) (by decide) (fun u10 H locs hw hP hD hS => ?_)
  obtain ⟨ar_2, c0_2, r0_2, c1_2, r1_2, c2_2, r2_2, hu⟩ := hw
  subst hu
  refine W.widen (k := 25) (n := 128) (Nat.le_of_ble_eq_true rfl) (Nat.le_of_ble_eq_true rfl) ?_
  have hP : va_P D vwCl [(h0, .inr (4, [.ref q1, .int 0, .int 0, .int 0, .ref q2, .ref q5, .null, .null, .int 0])), (q1, .inl (cy 0, 26, .inl (fun _ => 0))), (q2, .inr (2, [.int 0, .int 0, .int 0, .ref ar_0])), (ar_0, .inl (cy 2, 3, .inr (.inr (.inr (.inr (va_up (va_up (va_up (fun _ => none) 0 (some c0_0)) 1 (some c1_0)) 2 (some c2_0))))))), (c0_0, .inr (0, [.int 0, .int 31, .ref r0_0])), (r0_0, .inl (cy 0, 6, .inl (fun _ => 0))), (c1_0, .inr (0, [.int 0, .int 31, .ref r1_0])), (r1_0, .inl (cy 0, 6, .inl (fun _ => 0))), (c2_0, .inr (0, [.int 0, .int 31, .ref r2_0])), (r2_0, .inl (cy 0, 6, .inl (fun _ => 0))), (q5, .inr (2, [.int 0, .int 0, .int 0, .ref ar_1])), (ar_1, .inl (cy 2, 3, .inr (.inr (.inr (.inr (va_up (va_up (va_up (fun _ => none) 0 (some c0_1)) 1 (some c1_1)) 2 (some c2_1))))))), (c0_1, .inr (0, [.int 0, .int 31, .ref r0_1])), (r0_1, .inl (cy 0, 6, .inl (fun _ => 0))), (c1_1, .inr (0, [.int 0, .int 31, .ref r1_1])), (r1_1, .inl (cy 0, 6, .inl (fun _ => 0))), (c2_1, .inr (0, [.int 0, .int 31, .ref r2_1])), (r2_1, .inl (cy 0, 6, .inl (fun _ => 0))), (q8, .inr (2, [.int 0, .int 0, .int 0, .ref ar_2])), (ar_2, .inl (cy 2, 3, .inr (.inr (.inr (.inr (va_up (va_up (va_up (fun _ => none) 0 (some c0_2)) 1 (some c1_2)) 2 (some c2_2))))))), (c0_2, .inr (0, [.int 0, .int 31, .ref r0_2])), (r0_2, .inl (cy 0, 6, .inl (fun _ => 0))), (c1_2, .inr (0, [.int 0, .int 31, .ref r1_2])), (r1_2, .inl (cy 0, 6, .inl (fun _ => 0))), (c2_2, .inr (0, [.int 0, .int 31, .ref r2_2])), (r2_2, .inl (cy 0, 6, .inl (fun _ => 0)))] H := hP
  have hD : va_D A [(h0, .inr (4, [.ref q1, .int 0, .int 0, .int 0, .ref q2, .ref q5, .null, .null, .int 0])), (q1, .inl (cy 0, 26, .inl (fun _ => 0))), (q2, .inr (2, [.int 0, .int 0, .int 0, .ref ar_0])), (ar_0, .inl (cy 2, 3, .inr (.inr (.inr (.inr (va_up (va_up (va_up (fun _ => none) 0 (some c0_0)) 1 (some c1_0)) 2 (some c2_0))))))), (c0_0, .inr (0, [.int 0, .int 31, .ref r0_0])), (r0_0, .inl (cy 0, 6, .inl (fun _ => 0))), (c1_0, .inr (0, [.int 0, .int 31, .ref r1_0])), (r1_0, .inl (cy 0, 6, .inl (fun _ => 0))), (c2_0, .inr (0, [.int 0, .int 31, .ref r2_0])), (r2_0, .inl (cy 0, 6, .inl (fun _ => 0))), (q5, .inr (2, [.int 0, .int 0, .int 0, .ref ar_1])), (ar_1, .inl (cy 2, 3, .inr (.inr (.inr (.inr (va_up (va_up (va_up (fun _ => none) 0 (some c0_1)) 1 (some c1_1)) 2 (some c2_1))))))), (c0_1, .inr (0, [.int 0, .int 31, .ref r0_1])), (r0_1, .inl (cy 0, 6, .inl (fun _ => 0))), (c1_1, .inr (0, [.int 0, .int 31, .ref r1_1])), (r1_1, .inl (cy 0, 6, .inl (fun _ => 0))), (c2_1, .inr (0, [.int 0, .int 31, .ref r2_1])), (r2_1, .inl (cy 0, 6, .inl (fun _ => 0))), (q8, .inr (2, [.int 0, .int 0, .int 0, .ref ar_2])), (ar_2, .inl (cy 2, 3, .inr (.inr (.inr (.inr (va_up (va_up (va_up (fun _ => none) 0 (some c0_2)) 1 (some c1_2)) 2 (some c2_2))))))), (c0_2, .inr (0, [.int 0, .int 31, .ref r0_2])), (r0_2, .inl (cy 0, 6, .inl (fun _ => 0))), (c1_2, .inr (0, [.int 0, .int 31, .ref r1_2])), (r1_2, .inl (cy 0, 6, .inl (fun _ => 0))), (c2_2, .inr (0, [.int 0, .int 31, .ref r2_2])), (r2_2, .inl (cy 0, 6, .inl (fun _ => 0)))] := hD
  refine va_putF (D := D) (ci := 4) (v := .ref q8) (ty := (.object "CubeTower$Tower")) (C := RX4) (T := TX4) (N := 9) hx hb hts hw_X4 tyX4 tyX4_ok nmX4 hown hK hP hD hS 0 rfl rfl 6 (by decide) f_23 (fun _ h9 => h9) rfl hin rfl (by decide +kernel) rfl rfl (Nat.le_of_ble_eq_true rfl) dX4_init_42 (fun H locs hP hD hS => ?_)
  have hP : va_P D vwCl [(h0, .inr (4, [.ref q1, .int 0, .int 0, .int 0, .ref q2, .ref q5, .ref q8, .null, .int 0])), (q1, .inl (cy 0, 26, .inl (fun _ => 0))), (q2, .inr (2, [.int 0, .int 0, .int 0, .ref ar_0])), (ar_0, .inl (cy 2, 3, .inr (.inr (.inr (.inr (va_up (va_up (va_up (fun _ => none) 0 (some c0_0)) 1 (some c1_0)) 2 (some c2_0))))))), (c0_0, .inr (0, [.int 0, .int 31, .ref r0_0])), (r0_0, .inl (cy 0, 6, .inl (fun _ => 0))), (c1_0, .inr (0, [.int 0, .int 31, .ref r1_0])), (r1_0, .inl (cy 0, 6, .inl (fun _ => 0))), (c2_0, .inr (0, [.int 0, .int 31, .ref r2_0])), (r2_0, .inl (cy 0, 6, .inl (fun _ => 0))), (q5, .inr (2, [.int 0, .int 0, .int 0, .ref ar_1])), (ar_1, .inl (cy 2, 3, .inr (.inr (.inr (.inr (va_up (va_up (va_up (fun _ => none) 0 (some c0_1)) 1 (some c1_1)) 2 (some c2_1))))))), (c0_1, .inr (0, [.int 0, .int 31, .ref r0_1])), (r0_1, .inl (cy 0, 6, .inl (fun _ => 0))), (c1_1, .inr (0, [.int 0, .int 31, .ref r1_1])), (r1_1, .inl (cy 0, 6, .inl (fun _ => 0))), (c2_1, .inr (0, [.int 0, .int 31, .ref r2_1])), (r2_1, .inl (cy 0, 6, .inl (fun _ => 0))), (q8, .inr (2, [.int 0, .int 0, .int 0, .ref ar_2])), (ar_2, .inl (cy 2, 3, .inr (.inr (.inr (.inr (va_up (va_up (va_up (fun _ => none) 0 (some c0_2)) 1 (some c1_2)) 2 (some c2_2))))))), (c0_2, .inr (0, [.int 0, .int 31, .ref r0_2])), (r0_2, .inl (cy 0, 6, .inl (fun _ => 0))), (c1_2, .inr (0, [.int 0, .int 31, .ref r1_2])), (r1_2, .inl (cy 0, 6, .inl (fun _ => 0))), (c2_2, .inr (0, [.int 0, .int 31, .ref r2_2])), (r2_2, .inl (cy 0, 6, .inl (fun _ => 0)))] H := hP
  have hD : va_D A [(h0, .inr (4, [.ref q1, .int 0, .int 0, .int 0, .ref q2, .ref q5, .ref q8, .null, .int 0])), (q1, .inl (cy 0, 26, .inl (fun _ => 0))), (q2, .inr (2, [.int 0, .int 0, .int 0, .ref ar_0])), (ar_0, .inl (cy 2, 3, .inr (.inr (.inr (.inr (va_up (va_up (va_up (fun _ => none) 0 (some c0_0)) 1 (some c1_0)) 2 (some c2_0))))))), (c0_0, .inr (0, [.int 0, .int 31, .ref r0_0])), (r0_0, .inl (cy 0, 6, .inl (fun _ => 0))), (c1_0, .inr (0, [.int 0, .int 31, .ref r1_0])), (r1_0, .inl (cy 0, 6, .inl (fun _ => 0))), (c2_0, .inr (0, [.int 0, .int 31, .ref r2_0])), (r2_0, .inl (cy 0, 6, .inl (fun _ => 0))), (q5, .inr (2, [.int 0, .int 0, .int 0, .ref ar_1])), (ar_1, .inl (cy 2, 3, .inr (.inr (.inr (.inr (va_up (va_up (va_up (fun _ => none) 0 (some c0_1)) 1 (some c1_1)) 2 (some c2_1))))))), (c0_1, .inr (0, [.int 0, .int 31, .ref r0_1])), (r0_1, .inl (cy 0, 6, .inl (fun _ => 0))), (c1_1, .inr (0, [.int 0, .int 31, .ref r1_1])), (r1_1, .inl (cy 0, 6, .inl (fun _ => 0))), (c2_1, .inr (0, [.int 0, .int 31, .ref r2_1])), (r2_1, .inl (cy 0, 6, .inl (fun _ => 0))), (q8, .inr (2, [.int 0, .int 0, .int 0, .ref ar_2])), (ar_2, .inl (cy 2, 3, .inr (.inr (.inr (.inr (va_up (va_up (va_up (fun _ => none) 0 (some c0_2)) 1 (some c1_2)) 2 (some c2_2))))))), (c0_2, .inr (0, [.int 0, .int 31, .ref r0_2])), (r0_2, .inl (cy 0, 6, .inl (fun _ => 0))), (c1_2, .inr (0, [.int 0, .int 31, .ref r1_2])), (r1_2, .inl (cy 0, 6, .inl (fun _ => 0))), (c2_2, .inr (0, [.int 0, .int 31, .ref r2_2])), (r2_2, .inl (cy 0, 6, .inl (fun _ => 0)))] := hD
  refine lv_aload_n hx hb dX4_init_45 rfl (lv_at hl 0 rfl) ?_
  refine va_new (ci := 1) (fs := [.null, .null, .null, .null, .int 0, .int 0, .int 0, .int 0, .int 0]) (C := RX1) (T := TX1) (N := 9) hx hb hts hw_X1 tyX1 tyX1_ok hown cl_26 ins_X1 ini_X1 hK hP hD hS hA rfl (fun j hj => by rcases (show j = 0 ∨ j = 1 ∨ j = 2 ∨ j = 3 ∨ j = 4 ∨ j = 5 ∨ j = 6 ∨ j = 7 ∨ j = 8 by omega) with rfl | rfl | rfl | rfl | rfl | rfl | rfl | rfl | rfl <;> rfl) (Nat.le_of_ble_eq_true rfl) (Nat.le_of_ble_eq_true rfl) dX4_init_46 (fun q11 H hP hD hS => ?_)
  refine W.widen (k := 26) (n := 137) (Nat.le_of_ble_eq_true rfl) (Nat.le_of_ble_eq_true rfl) ?_
  have hP : va_P D vwCl [(h0, .inr (4, [.ref q1, .int 0, .int 0, .int 0, .ref q2, .ref q5, .ref q8, .null, .int 0])), (q1, .inl (cy 0, 26, .inl (fun _ => 0))), (q2, .inr (2, [.int 0, .int 0, .int 0, .ref ar_0])), (ar_0, .inl (cy 2, 3, .inr (.inr (.inr (.inr (va_up (va_up (va_up (fun _ => none) 0 (some c0_0)) 1 (some c1_0)) 2 (some c2_0))))))), (c0_0, .inr (0, [.int 0, .int 31, .ref r0_0])), (r0_0, .inl (cy 0, 6, .inl (fun _ => 0))), (c1_0, .inr (0, [.int 0, .int 31, .ref r1_0])), (r1_0, .inl (cy 0, 6, .inl (fun _ => 0))), (c2_0, .inr (0, [.int 0, .int 31, .ref r2_0])), (r2_0, .inl (cy 0, 6, .inl (fun _ => 0))), (q5, .inr (2, [.int 0, .int 0, .int 0, .ref ar_1])), (ar_1, .inl (cy 2, 3, .inr (.inr (.inr (.inr (va_up (va_up (va_up (fun _ => none) 0 (some c0_1)) 1 (some c1_1)) 2 (some c2_1))))))), (c0_1, .inr (0, [.int 0, .int 31, .ref r0_1])), (r0_1, .inl (cy 0, 6, .inl (fun _ => 0))), (c1_1, .inr (0, [.int 0, .int 31, .ref r1_1])), (r1_1, .inl (cy 0, 6, .inl (fun _ => 0))), (c2_1, .inr (0, [.int 0, .int 31, .ref r2_1])), (r2_1, .inl (cy 0, 6, .inl (fun _ => 0))), (q8, .inr (2, [.int 0, .int 0, .int 0, .ref ar_2])), (ar_2, .inl (cy 2, 3, .inr (.inr (.inr (.inr (va_up (va_up (va_up (fun _ => none) 0 (some c0_2)) 1 (some c1_2)) 2 (some c2_2))))))), (c0_2, .inr (0, [.int 0, .int 31, .ref r0_2])), (r0_2, .inl (cy 0, 6, .inl (fun _ => 0))), (c1_2, .inr (0, [.int 0, .int 31, .ref r1_2])), (r1_2, .inl (cy 0, 6, .inl (fun _ => 0))), (c2_2, .inr (0, [.int 0, .int 31, .ref r2_2])), (r2_2, .inl (cy 0, 6, .inl (fun _ => 0))), (q11, .inr (1, [.null, .null, .null, .null, .int 0, .int 0, .int 0, .int 0, .int 0]))] H := hP
  have hD : va_D A [(h0, .inr (4, [.ref q1, .int 0, .int 0, .int 0, .ref q2, .ref q5, .ref q8, .null, .int 0])), (q1, .inl (cy 0, 26, .inl (fun _ => 0))), (q2, .inr (2, [.int 0, .int 0, .int 0, .ref ar_0])), (ar_0, .inl (cy 2, 3, .inr (.inr (.inr (.inr (va_up (va_up (va_up (fun _ => none) 0 (some c0_0)) 1 (some c1_0)) 2 (some c2_0))))))), (c0_0, .inr (0, [.int 0, .int 31, .ref r0_0])), (r0_0, .inl (cy 0, 6, .inl (fun _ => 0))), (c1_0, .inr (0, [.int 0, .int 31, .ref r1_0])), (r1_0, .inl (cy 0, 6, .inl (fun _ => 0))), (c2_0, .inr (0, [.int 0, .int 31, .ref r2_0])), (r2_0, .inl (cy 0, 6, .inl (fun _ => 0))), (q5, .inr (2, [.int 0, .int 0, .int 0, .ref ar_1])), (ar_1, .inl (cy 2, 3, .inr (.inr (.inr (.inr (va_up (va_up (va_up (fun _ => none) 0 (some c0_1)) 1 (some c1_1)) 2 (some c2_1))))))), (c0_1, .inr (0, [.int 0, .int 31, .ref r0_1])), (r0_1, .inl (cy 0, 6, .inl (fun _ => 0))), (c1_1, .inr (0, [.int 0, .int 31, .ref r1_1])), (r1_1, .inl (cy 0, 6, .inl (fun _ => 0))), (c2_1, .inr (0, [.int 0, .int 31, .ref r2_1])), (r2_1, .inl (cy 0, 6, .inl (fun _ => 0))), (q8, .inr (2, [.int 0, .int 0, .int 0, .ref ar_2])), (ar_2, .inl (cy 2, 3, .inr (.inr (.inr (.inr (va_up (va_up (va_up (fun _ => none) 0 (some c0_2)) 1 (some c1_2)) 2 (some c2_2))))))), (c0_2, .inr (0, [.int 0, .int 31, .ref r0_2])), (r0_2, .inl (cy 0, 6, .inl (fun _ => 0))), (c1_2, .inr (0, [.int 0, .int 31, .ref r1_2])), (r1_2, .inl (cy 0, 6, .inl (fun _ => 0))), (c2_2, .inr (0, [.int 0, .int 31, .ref r2_2])), (r2_2, .inl (cy 0, 6, .inl (fun _ => 0))), (q11, .inr (1, [.null, .null, .null, .null, .int 0, .int 0, .int 0, .int 0, .int 0]))] := hD
  refine lv_dup hx hb dX4_init_49 rfl ?_
  refine kc_v (wc := [(q11, .inr (1, [.null, .null, .null, .null, .int 0, .int 0, .int 0, .int 0, .int 0]))]) (wr := [(h0, .inr (4, [.ref q1, .int 0, .int 0, .int 0, .ref q2, .ref q5, .ref q8, .null, .int 0])), (q1, .inl (cy 0, 26, .inl (fun _ => 0))), (q2, .inr (2, [.int 0, .int 0, .int 0, .ref ar_0])), (ar_0, .inl (cy 2, 3, .inr (.inr (.inr (.inr (va_up (va_up (va_up (fun _ => none) 0 (some c0_0)) 1 (some c1_0)) 2 (some c2_0))))))), (c0_0, .inr (0, [.int 0, .int 31, .ref r0_0])), (r0_0, .inl (cy 0, 6, .inl (fun _ => 0))), (c1_0, .inr (0, [.int 0, .int 31, .ref r1_0])), (r1_0, .inl (cy 0, 6, .inl (fun _ => 0))), (c2_0, .inr (0, [.int 0, .int 31, .ref r2_0])), (r2_0, .inl (cy 0, 6, .inl (fun _ => 0))), (q5, .inr (2, [.int 0, .int 0, .int 0, .ref ar_1])), (ar_1, .inl (cy 2, 3, .inr (.inr (.inr (.inr (va_up (va_up (va_up (fun _ => none) 0 (some c0_1)) 1 (some c1_1)) 2 (some c2_1))))))), (c0_1, .inr (0, [.int 0, .int 31, .ref r0_1])), (r0_1, .inl (cy 0, 6, .inl (fun _ => 0))), (c1_1, .inr (0, [.int 0, .int 31, .ref r1_1])), (r1_1, .inl (cy 0, 6, .inl (fun _ => 0))), (c2_1, .inr (0, [.int 0, .int 31, .ref r2_1])), (r2_1, .inl (cy 0, 6, .inl (fun _ => 0))), (q8, .inr (2, [.int 0, .int 0, .int 0, .ref ar_2])), (ar_2, .inl (cy 2, 3, .inr (.inr (.inr (.inr (va_up (va_up (va_up (fun _ => none) 0 (some c0_2)) 1 (some c1_2)) 2 (some c2_2))))))), (c0_2, .inr (0, [.int 0, .int 31, .ref r0_2])), (r0_2, .inl (cy 0, 6, .inl (fun _ => 0))), (c1_2, .inr (0, [.int 0, .int 31, .ref r1_2])), (r1_2, .inl (cy 0, 6, .inl (fun _ => 0))), (c2_2, .inr (0, [.int 0, .int 31, .ref r2_2])), (r2_2, .inl (cy 0, 6, .inl (fun _ => 0)))]) (va_runIN (As := []) (rest := [.ref q11, .ref h0]) ⟨hx, hb, hml, hown, hts⟩ (c_X1_init l D cy H.size q11 ) ⟨va_cnB 0 hts gX4_init_X1_init_n28 rfl rfl rfl hX.2.2.1.2.2.1 ini_X1 (by decide +kernel) ⟨Nat.le_of_ble_eq_true rfl, Nat.le_of_ble_eq_true rfl⟩, rfl, im_X1_init⟩ (cpre_S (wc := [(q11, .inr (1, [.null, .null, .null, .null, .int 0, .int 0, .int 0, .int 0, .int 0]))]) hX hP hD hS hA [26] (by decide) rfl) rfl rfl hl.1 rfl (lv_room (Nat.le_of_ble_eq_true rfl)) dX4_init_50 ⟨Nat.le_of_ble_eq_true rfl, Nat.le_of_ble_eq_true rfl⟩) hP hD hS hA [26] [0, 1, 2, 3, 4, 5, 6, 7, 8, 9, 10, 11, 12, 13, 14, 15, 16, 17, 18, 19, 20, 21, 22, 23, 24, 25] rfl rfl (by decide) (by decide) (fun u13 H locs hw hP hD hS => ?_)
  obtain ⟨s_wk, s_wc, s_wl, s_l0, s_l1, s_l2, s_pr, s_o0, s_a0, s_b0, s_d0, s_z0, s_f0, s_g0, s_y0, s_o1, s_a1, s_b1, s_d1, s_z1, s_f1, s_g1, s_y1, s_o2, s_a2, s_b2, s_d2, s_z2, s_f2, s_g2, s_y2, s_o3, s_a3, s_b3, s_d3, s_z3, s_f3, s_g3, s_y3, s_o4, s_a4, s_b4, s_d4, s_z4, s_f4, s_g4, s_y4, hu, sf_0, sf_1, sf_2, sf_3, sf_4, sf_5, sf_6, sf_7, sf_8, sf_9, sf_10, sf_11, sf_12, sf_13, sf_14⟩ := hw
  subst hu
  refine W.widen (k := 53) (n := 1806) (Nat.le_of_ble_eq_true rfl) (Nat.le_of_ble_eq_true rfl) ?_
  have hP : va_P D vwCl [(h0, .inr (4, [.ref q1, .int 0, .int 0, .int 0, .ref q2, .ref q5, .ref q8, .null, .int 0])), (q1, .inl (cy 0, 26, .inl (fun _ => 0))), (q2, .inr (2, [.int 0, .int 0, .int 0, .ref ar_0])), (ar_0, .inl (cy 2, 3, .inr (.inr (.inr (.inr (va_up (va_up (va_up (fun _ => none) 0 (some c0_0)) 1 (some c1_0)) 2 (some c2_0))))))), (c0_0, .inr (0, [.int 0, .int 31, .ref r0_0])), (r0_0, .inl (cy 0, 6, .inl (fun _ => 0))), (c1_0, .inr (0, [.int 0, .int 31, .ref r1_0])), (r1_0, .inl (cy 0, 6, .inl (fun _ => 0))), (c2_0, .inr (0, [.int 0, .int 31, .ref r2_0])), (r2_0, .inl (cy 0, 6, .inl (fun _ => 0))), (q5, .inr (2, [.int 0, .int 0, .int 0, .ref ar_1])), (ar_1, .inl (cy 2, 3, .inr (.inr (.inr (.inr (va_up (va_up (va_up (fun _ => none) 0 (some c0_1)) 1 (some c1_1)) 2 (some c2_1))))))), (c0_1, .inr (0, [.int 0, .int 31, .ref r0_1])), (r0_1, .inl (cy 0, 6, .inl (fun _ => 0))), (c1_1, .inr (0, [.int 0, .int 31, .ref r1_1])), (r1_1, .inl (cy 0, 6, .inl (fun _ => 0))), (c2_1, .inr (0, [.int 0, .int 31, .ref r2_1])), (r2_1, .inl (cy 0, 6, .inl (fun _ => 0))), (q8, .inr (2, [.int 0, .int 0, .int 0, .ref ar_2])), (ar_2, .inl (cy 2, 3, .inr (.inr (.inr (.inr (va_up (va_up (va_up (fun _ => none) 0 (some c0_2)) 1 (some c1_2)) 2 (some c2_2))))))), (c0_2, .inr (0, [.int 0, .int 31, .ref r0_2])), (r0_2, .inl (cy 0, 6, .inl (fun _ => 0))), (c1_2, .inr (0, [.int 0, .int 31, .ref r1_2])), (r1_2, .inl (cy 0, 6, .inl (fun _ => 0))), (c2_2, .inr (0, [.int 0, .int 31, .ref r2_2])), (r2_2, .inl (cy 0, 6, .inl (fun _ => 0))), (q11, .inr (1, [.ref s_wk, .ref s_wc, .ref s_wl, .ref s_pr, .int 0, .int 0, .int 0, .int 0, .int 0])), (s_wk, .inl (cy 3, 5, .inr (.inr (.inr (.inr (va_up (va_up (va_up (va_up (va_up (fun _ => none) 0 (some s_o0)) 1 (some s_o1)) 2 (some s_o2)) 3 (some s_o3)) 4 (some s_o4))))))), (s_o0, .inr (3, [.int (nI s_z0), .ref s_a0, .ref s_b0, .ref s_d0])), (s_a0, .inl (cy 0, 150, .inl s_f0)), (s_b0, .inl (cy 0, 24, .inl s_g0)), (s_d0, .inl (cy 0, 24, .inl s_y0)), (s_o1, .inr (3, [.int (nI s_z1), .ref s_a1, .ref s_b1, .ref s_d1])), (s_a1, .inl (cy 0, 150, .inl s_f1)), (s_b1, .inl (cy 0, 24, .inl s_g1)), (s_d1, .inl (cy 0, 24, .inl s_y1)), (s_o2, .inr (3, [.int (nI s_z2), .ref s_a2, .ref s_b2, .ref s_d2])), (s_a2, .inl (cy 0, 150, .inl s_f2)), (s_b2, .inl (cy 0, 24, .inl s_g2)), (s_d2, .inl (cy 0, 24, .inl s_y2)), (s_o3, .inr (3, [.int (nI s_z3), .ref s_a3, .ref s_b3, .ref s_d3])), (s_a3, .inl (cy 0, 150, .inl s_f3)), (s_b3, .inl (cy 0, 24, .inl s_g3)), (s_d3, .inl (cy 0, 24, .inl s_y3)), (s_o4, .inr (3, [.int (nI s_z4), .ref s_a4, .ref s_b4, .ref s_d4])), (s_a4, .inl (cy 0, 150, .inl s_f4)), (s_b4, .inl (cy 0, 24, .inl s_g4)), (s_d4, .inl (cy 0, 24, .inl s_y4)), (s_wc, .inl (cy 3, 3, .inr (.inr (.inr (.inr (va_up (va_up (va_up (fun _ => none) 0 (some s_o3)) 1 (some s_o3)) 2 (some s_o3))))))), (s_wl, .inl (cy 4, 3, .inr (.inr (.inr (.inr (va_up (va_up (va_up (fun _ => none) 0 (some s_l0)) 1 (some s_l1)) 2 (some s_l2))))))), (s_l0, .inl (cy 0, 24, .inl (fun _ => 0))), (s_l1, .inl (cy 0, 24, .inl (fun _ => 0))), (s_l2, .inl (cy 0, 24, .inl (fun _ => 0))), (s_pr, .inl (cy 0, 576, .inl (fun _ => 0)))] H := hP
  have hD : va_D A [(h0, .inr (4, [.ref q1, .int 0, .int 0, .int 0, .ref q2, .ref q5, .ref q8, .null, .int 0])), (q1, .inl (cy 0, 26, .inl (fun _ => 0))), (q2, .inr (2, [.int 0, .int 0, .int 0, .ref ar_0])), (ar_0, .inl (cy 2, 3, .inr (.inr (.inr (.inr (va_up (va_up (va_up (fun _ => none) 0 (some c0_0)) 1 (some c1_0)) 2 (some c2_0))))))), (c0_0, .inr (0, [.int 0, .int 31, .ref r0_0])), (r0_0, .inl (cy 0, 6, .inl (fun _ => 0))), (c1_0, .inr (0, [.int 0, .int 31, .ref r1_0])), (r1_0, .inl (cy 0, 6, .inl (fun _ => 0))), (c2_0, .inr (0, [.int 0, .int 31, .ref r2_0])), (r2_0, .inl (cy 0, 6, .inl (fun _ => 0))), (q5, .inr (2, [.int 0, .int 0, .int 0, .ref ar_1])), (ar_1, .inl (cy 2, 3, .inr (.inr (.inr (.inr (va_up (va_up (va_up (fun _ => none) 0 (some c0_1)) 1 (some c1_1)) 2 (some c2_1))))))), (c0_1, .inr (0, [.int 0, .int 31, .ref r0_1])), (r0_1, .inl (cy 0, 6, .inl (fun _ => 0))), (c1_1, .inr (0, [.int 0, .int 31, .ref r1_1])), (r1_1, .inl (cy 0, 6, .inl (fun _ => 0))), (c2_1, .inr (0, [.int 0, .int 31, .ref r2_1])), (r2_1, .inl (cy 0, 6, .inl (fun _ => 0))), (q8, .inr (2, [.int 0, .int 0, .int 0, .ref ar_2])), (ar_2, .inl (cy 2, 3, .inr (.inr (.inr (.inr (va_up (va_up (va_up (fun _ => none) 0 (some c0_2)) 1 (some c1_2)) 2 (some c2_2))))))), (c0_2, .inr (0, [.int 0, .int 31, .ref r0_2])), (r0_2, .inl (cy 0, 6, .inl (fun _ => 0))), (c1_2, .inr (0, [.int 0, .int 31, .ref r1_2])), (r1_2, .inl (cy 0, 6, .inl (fun _ => 0))), (c2_2, .inr (0, [.int 0, .int 31, .ref r2_2])), (r2_2, .inl (cy 0, 6, .inl (fun _ => 0))), (q11, .inr (1, [.ref s_wk, .ref s_wc, .ref s_wl, .ref s_pr, .int 0, .int 0, .int 0, .int 0, .int 0])), (s_wk, .inl (cy 3, 5, .inr (.inr (.inr (.inr (va_up (va_up (va_up (va_up (va_up (fun _ => none) 0 (some s_o0)) 1 (some s_o1)) 2 (some s_o2)) 3 (some s_o3)) 4 (some s_o4))))))), (s_o0, .inr (3, [.int (nI s_z0), .ref s_a0, .ref s_b0, .ref s_d0])), (s_a0, .inl (cy 0, 150, .inl s_f0)), (s_b0, .inl (cy 0, 24, .inl s_g0)), (s_d0, .inl (cy 0, 24, .inl s_y0)), (s_o1, .inr (3, [.int (nI s_z1), .ref s_a1, .ref s_b1, .ref s_d1])), (s_a1, .inl (cy 0, 150, .inl s_f1)), (s_b1, .inl (cy 0, 24, .inl s_g1)), (s_d1, .inl (cy 0, 24, .inl s_y1)), (s_o2, .inr (3, [.int (nI s_z2), .ref s_a2, .ref s_b2, .ref s_d2])), (s_a2, .inl (cy 0, 150, .inl s_f2)), (s_b2, .inl (cy 0, 24, .inl s_g2)), (s_d2, .inl (cy 0, 24, .inl s_y2)), (s_o3, .inr (3, [.int (nI s_z3), .ref s_a3, .ref s_b3, .ref s_d3])), (s_a3, .inl (cy 0, 150, .inl s_f3)), (s_b3, .inl (cy 0, 24, .inl s_g3)), (s_d3, .inl (cy 0, 24, .inl s_y3)), (s_o4, .inr (3, [.int (nI s_z4), .ref s_a4, .ref s_b4, .ref s_d4])), (s_a4, .inl (cy 0, 150, .inl s_f4)), (s_b4, .inl (cy 0, 24, .inl s_g4)), (s_d4, .inl (cy 0, 24, .inl s_y4)), (s_wc, .inl (cy 3, 3, .inr (.inr (.inr (.inr (va_up (va_up (va_up (fun _ => none) 0 (some s_o3)) 1 (some s_o3)) 2 (some s_o3))))))), (s_wl, .inl (cy 4, 3, .inr (.inr (.inr (.inr (va_up (va_up (va_up (fun _ => none) 0 (some s_l0)) 1 (some s_l1)) 2 (some s_l2))))))), (s_l0, .inl (cy 0, 24, .inl (fun _ => 0))), (s_l1, .inl (cy 0, 24, .inl (fun _ => 0))), (s_l2, .inl (cy 0, 24, .inl (fun _ => 0))), (s_pr, .inl (cy 0, 576, .inl (fun _ => 0)))] := hD
  refine va_putF (D := D) (ci := 4) (v := .ref q11) (ty := (.object "CubeTower$Survey")) (C := RX4) (T := TX4) (N := 9) hx hb hts hw_X4 tyX4 tyX4_ok nmX4 hown hK hP hD hS 0 rfl rfl 7 (by decide) f_29 (fun _ h9 => h9) rfl hin rfl (by decide +kernel) rfl rfl (Nat.le_of_ble_eq_true rfl) dX4_init_53 (fun H locs hP hD hS => ?_)
  have hP : va_P D vwCl [(h0, .inr (4, [.ref q1, .int 0, .int 0, .int 0, .ref q2, .ref q5, .ref q8, .ref q11, .int 0])), (q1, .inl (cy 0, 26, .inl (fun _ => 0))), (q2, .inr (2, [.int 0, .int 0, .int 0, .ref ar_0])), (ar_0, .inl (cy 2, 3, .inr (.inr (.inr (.inr (va_up (va_up (va_up (fun _ => none) 0 (some c0_0)) 1 (some c1_0)) 2 (some c2_0))))))), (c0_0, .inr (0, [.int 0, .int 31, .ref r0_0])), (r0_0, .inl (cy 0, 6, .inl (fun _ => 0))), (c1_0, .inr (0, [.int 0, .int 31, .ref r1_0])), (r1_0, .inl (cy 0, 6, .inl (fun _ => 0))), (c2_0, .inr (0, [.int 0, .int 31, .ref r2_0])), (r2_0, .inl (cy 0, 6, .inl (fun _ => 0))), (q5, .inr (2, [.int 0, .int 0, .int 0, .ref ar_1])), (ar_1, .inl (cy 2, 3, .inr (.inr (.inr (.inr (va_up (va_up (va_up (fun _ => none) 0 (some c0_1)) 1 (some c1_1)) 2 (some c2_1))))))), (c0_1, .inr (0, [.int 0, .int 31, .ref r0_1])), (r0_1, .inl (cy 0, 6, .inl (fun _ => 0))), (c1_1, .inr (0, [.int 0, .int 31, .ref r1_1])), (r1_1, .inl (cy 0, 6, .inl (fun _ => 0))), (c2_1, .inr (0, [.int 0, .int 31, .ref r2_1])), (r2_1, .inl (cy 0, 6, .inl (fun _ => 0))), (q8, .inr (2, [.int 0, .int 0, .int 0, .ref ar_2])), (ar_2, .inl (cy 2, 3, .inr (.inr (.inr (.inr (va_up (va_up (va_up (fun _ => none) 0 (some c0_2)) 1 (some c1_2)) 2 (some c2_2))))))), (c0_2, .inr (0, [.int 0, .int 31, .ref r0_2])), (r0_2, .inl (cy 0, 6, .inl (fun _ => 0))), (c1_2, .inr (0, [.int 0, .int 31, .ref r1_2])), (r1_2, .inl (cy 0, 6, .inl (fun _ => 0))), (c2_2, .inr (0, [.int 0, .int 31, .ref r2_2])), (r2_2, .inl (cy 0, 6, .inl (fun _ => 0))), (q11, .inr (1, [.ref s_wk, .ref s_wc, .ref s_wl, .ref s_pr, .int 0, .int 0, .int 0, .int 0, .int 0])), (s_wk, .inl (cy 3, 5, .inr (.inr (.inr (.inr (va_up (va_up (va_up (va_up (va_up (fun _ => none) 0 (some s_o0)) 1 (some s_o1)) 2 (some s_o2)) 3 (some s_o3)) 4 (some s_o4))))))), (s_o0, .inr (3, [.int (nI s_z0), .ref s_a0, .ref s_b0, .ref s_d0])), (s_a0, .inl (cy 0, 150, .inl s_f0)), (s_b0, .inl (cy 0, 24, .inl s_g0)), (s_d0, .inl (cy 0, 24, .inl s_y0)), (s_o1, .inr (3, [.int (nI s_z1), .ref s_a1, .ref s_b1, .ref s_d1])), (s_a1, .inl (cy 0, 150, .inl s_f1)), (s_b1, .inl (cy 0, 24, .inl s_g1)), (s_d1, .inl (cy 0, 24, .inl s_y1)), (s_o2, .inr (3, [.int (nI s_z2), .ref s_a2, .ref s_b2, .ref s_d2])), (s_a2, .inl (cy 0, 150, .inl s_f2)), (s_b2, .inl (cy 0, 24, .inl s_g2)), (s_d2, .inl (cy 0, 24, .inl s_y2)), (s_o3, .inr (3, [.int (nI s_z3), .ref s_a3, .ref s_b3, .ref s_d3])), (s_a3, .inl (cy 0, 150, .inl s_f3)), (s_b3, .inl (cy 0, 24, .inl s_g3)), (s_d3, .inl (cy 0, 24, .inl s_y3)), (s_o4, .inr (3, [.int (nI s_z4), .ref s_a4, .ref s_b4, .ref s_d4])), (s_a4, .inl (cy 0, 150, .inl s_f4)), (s_b4, .inl (cy 0, 24, .inl s_g4)), (s_d4, .inl (cy 0, 24, .inl s_y4)), (s_wc, .inl (cy 3, 3, .inr (.inr (.inr (.inr (va_up (va_up (va_up (fun _ => none) 0 (some s_o3)) 1 (some s_o3)) 2 (some s_o3))))))), (s_wl, .inl (cy 4, 3, .inr (.inr (.inr (.inr (va_up (va_up (va_up (fun _ => none) 0 (some s_l0)) 1 (some s_l1)) 2 (some s_l2))))))), (s_l0, .inl (cy 0, 24, .inl (fun _ => 0))), (s_l1, .inl (cy 0, 24, .inl (fun _ => 0))), (s_l2, .inl (cy 0, 24, .inl (fun _ => 0))), (s_pr, .inl (cy 0, 576, .inl (fun _ => 0)))] H := hP
  have hD : va_D A [(h0, .inr (4, [.ref q1, .int 0, .int 0, .int 0, .ref q2, .ref q5, .ref q8, .ref q11, .int 0])), (q1, .inl (cy 0, 26, .inl (fun _ => 0))), (q2, .inr (2, [.int 0, .int 0, .int 0, .ref ar_0])), (ar_0, .inl (cy 2, 3, .inr (.inr (.inr (.inr (va_up (va_up (va_up (fun _ => none) 0 (some c0_0)) 1 (some c1_0)) 2 (some c2_0))))))), (c0_0, .inr (0, [.int 0, .int 31, .ref r0_0])), (r0_0, .inl (cy 0, 6, .inl (fun _ => 0))), (c1_0, .inr (0, [.int 0, .int 31, .ref r1_0])), (r1_0, .inl (cy 0, 6, .inl (fun _ => 0))), (c2_0, .inr (0, [.int 0, .int 31, .ref r2_0])), (r2_0, .inl (cy 0, 6, .inl (fun _ => 0))), (q5, .inr (2, [.int 0, .int 0, .int 0, .ref ar_1])), (ar_1, .inl (cy 2, 3, .inr (.inr (.inr (.inr (va_up (va_up (va_up (fun _ => none) 0 (some c0_1)) 1 (some c1_1)) 2 (some c2_1))))))), (c0_1, .inr (0, [.int 0, .int 31, .ref r0_1])), (r0_1, .inl (cy 0, 6, .inl (fun _ => 0))), (c1_1, .inr (0, [.int 0, .int 31, .ref r1_1])), (r1_1, .inl (cy 0, 6, .inl (fun _ => 0))), (c2_1, .inr (0, [.int 0, .int 31, .ref r2_1])), (r2_1, .inl (cy 0, 6, .inl (fun _ => 0))), (q8, .inr (2, [.int 0, .int 0, .int 0, .ref ar_2])), (ar_2, .inl (cy 2, 3, .inr (.inr (.inr (.inr (va_up (va_up (va_up (fun _ => none) 0 (some c0_2)) 1 (some c1_2)) 2 (some c2_2))))))), (c0_2, .inr (0, [.int 0, .int 31, .ref r0_2])), (r0_2, .inl (cy 0, 6, .inl (fun _ => 0))), (c1_2, .inr (0, [.int 0, .int 31, .ref r1_2])), (r1_2, .inl (cy 0, 6, .inl (fun _ => 0))), (c2_2, .inr (0, [.int 0, .int 31, .ref r2_2])), (r2_2, .inl (cy 0, 6, .inl (fun _ => 0))), (q11, .inr (1, [.ref s_wk, .ref s_wc, .ref s_wl, .ref s_pr, .int 0, .int 0, .int 0, .int 0, .int 0])), (s_wk, .inl (cy 3, 5, .inr (.inr (.inr (.inr (va_up (va_up (va_up (va_up (va_up (fun _ => none) 0 (some s_o0)) 1 (some s_o1)) 2 (some s_o2)) 3 (some s_o3)) 4 (some s_o4))))))), (s_o0, .inr (3, [.int (nI s_z0), .ref s_a0, .ref s_b0, .ref s_d0])), (s_a0, .inl (cy 0, 150, .inl s_f0)), (s_b0, .inl (cy 0, 24, .inl s_g0)), (s_d0, .inl (cy 0, 24, .inl s_y0)), (s_o1, .inr (3, [.int (nI s_z1), .ref s_a1, .ref s_b1, .ref s_d1])), (s_a1, .inl (cy 0, 150, .inl s_f1)), (s_b1, .inl (cy 0, 24, .inl s_g1)), (s_d1, .inl (cy 0, 24, .inl s_y1)), (s_o2, .inr (3, [.int (nI s_z2), .ref s_a2, .ref s_b2, .ref s_d2])), (s_a2, .inl (cy 0, 150, .inl s_f2)), (s_b2, .inl (cy 0, 24, .inl s_g2)), (s_d2, .inl (cy 0, 24, .inl s_y2)), (s_o3, .inr (3, [.int (nI s_z3), .ref s_a3, .ref s_b3, .ref s_d3])), (s_a3, .inl (cy 0, 150, .inl s_f3)), (s_b3, .inl (cy 0, 24, .inl s_g3)), (s_d3, .inl (cy 0, 24, .inl s_y3)), (s_o4, .inr (3, [.int (nI s_z4), .ref s_a4, .ref s_b4, .ref s_d4])), (s_a4, .inl (cy 0, 150, .inl s_f4)), (s_b4, .inl (cy 0, 24, .inl s_g4)), (s_d4, .inl (cy 0, 24, .inl s_y4)), (s_wc, .inl (cy 3, 3, .inr (.inr (.inr (.inr (va_up (va_up (va_up (fun _ => none) 0 (some s_o3)) 1 (some s_o3)) 2 (some s_o3))))))), (s_wl, .inl (cy 4, 3, .inr (.inr (.inr (.inr (va_up (va_up (va_up (fun _ => none) 0 (some s_l0)) 1 (some s_l1)) 2 (some s_l2))))))), (s_l0, .inl (cy 0, 24, .inl (fun _ => 0))), (s_l1, .inl (cy 0, 24, .inl (fun _ => 0))), (s_l2, .inl (cy 0, 24, .inl (fun _ => 0))), (s_pr, .inl (cy 0, 576, .inl (fun _ => 0)))] := hD
  have hP9 := hP.sub (ws' := [(h0, .inr (4, [.ref q1, .int 0, .int 0, .int 0, .ref q2, .ref q5, .ref q8, .ref q11, .int 0])), (q1, .inl (cy 0, 26, .inl (fun _ => 0))), (q2, .inr (2, [.int 0, .int 0, .int 0, .ref ar_0])), (ar_0, .inl (cy 2, 3, .inr (.inr (.inr (.inr (va_up (va_up (va_up (fun _ => none) 0 (some c0_0)) 1 (some c1_0)) 2 (some c2_0))))))), (c0_0, .inr (0, [.int 0, .int 31, .ref r0_0])), (r0_0, .inl (cy 0, 6, .inl (fun _ => 0))), (c1_0, .inr (0, [.int 0, .int 31, .ref r1_0])), (r1_0, .inl (cy 0, 6, .inl (fun _ => 0))), (c2_0, .inr (0, [.int 0, .int 31, .ref r2_0])), (r2_0, .inl (cy 0, 6, .inl (fun _ => 0))), (q5, .inr (2, [.int 0, .int 0, .int 0, .ref ar_1])), (ar_1, .inl (cy 2, 3, .inr (.inr (.inr (.inr (va_up (va_up (va_up (fun _ => none) 0 (some c0_1)) 1 (some c1_1)) 2 (some c2_1))))))), (c0_1, .inr (0, [.int 0, .int 31, .ref r0_1])), (r0_1, .inl (cy 0, 6, .inl (fun _ => 0))), (c1_1, .inr (0, [.int 0, .int 31, .ref r1_1])), (r1_1, .inl (cy 0, 6, .inl (fun _ => 0))), (c2_1, .inr (0, [.int 0, .int 31, .ref r2_1])), (r2_1, .inl (cy 0, 6, .inl (fun _ => 0))), (q8, .inr (2, [.int 0, .int 0, .int 0, .ref ar_2])), (ar_2, .inl (cy 2, 3, .inr (.inr (.inr (.inr (va_up (va_up (va_up (fun _ => none) 0 (some c0_2)) 1 (some c1_2)) 2 (some c2_2))))))), (c0_2, .inr (0, [.int 0, .int 31, .ref r0_2])), (r0_2, .inl (cy 0, 6, .inl (fun _ => 0))), (c1_2, .inr (0, [.int 0, .int 31, .ref r1_2])), (r1_2, .inl (cy 0, 6, .inl (fun _ => 0))), (c2_2, .inr (0, [.int 0, .int 31, .ref r2_2])), (r2_2, .inl (cy 0, 6, .inl (fun _ => 0))), (q11, .inr (1, [.ref s_wk, .ref s_wc, .ref s_wl, .ref s_pr, .int 0, .int 0, .int 0, .int 0, .int 0])), (s_wk, .inl (cy 3, 5, .inr (.inr (.inr (.inr (va_up (va_up (va_up (va_up (va_up (fun _ => none) 0 (some s_o0)) 1 (some s_o1)) 2 (some s_o2)) 3 (some s_o3)) 4 (some s_o4))))))), (s_o0, .inr (3, [.int (nI s_z0), .ref s_a0, .ref s_b0, .ref s_d0])), (s_a0, .inl (cy 0, 150, .inl s_f0)), (s_b0, .inl (cy 0, 24, .inl s_g0)), (s_d0, .inl (cy 0, 24, .inl s_y0)), (s_o1, .inr (3, [.int (nI s_z1), .ref s_a1, .ref s_b1, .ref s_d1])), (s_a1, .inl (cy 0, 150, .inl s_f1)), (s_b1, .inl (cy 0, 24, .inl s_g1)), (s_d1, .inl (cy 0, 24, .inl s_y1)), (s_o2, .inr (3, [.int (nI s_z2), .ref s_a2, .ref s_b2, .ref s_d2])), (s_a2, .inl (cy 0, 150, .inl s_f2)), (s_b2, .inl (cy 0, 24, .inl s_g2)), (s_d2, .inl (cy 0, 24, .inl s_y2)), (s_o3, .inr (3, [.int (nI s_z3), .ref s_a3, .ref s_b3, .ref s_d3])), (s_a3, .inl (cy 0, 150, .inl s_f3)), (s_b3, .inl (cy 0, 24, .inl s_g3)), (s_d3, .inl (cy 0, 24, .inl s_y3)), (s_o4, .inr (3, [.int (nI s_z4), .ref s_a4, .ref s_b4, .ref s_d4])), (s_a4, .inl (cy 0, 150, .inl s_f4)), (s_b4, .inl (cy 0, 24, .inl s_g4)), (s_d4, .inl (cy 0, 24, .inl s_y4)), (s_wc, .inl (cy 3, 3, .inr (.inr (.inr (.inr (va_up (va_up (va_up (fun _ => none) 0 (some s_o3)) 1 (some s_o3)) 2 (some s_o3))))))), (s_wl, .inl (cy 4, 3, .inr (.inr (.inr (.inr (va_up (va_up (va_up (fun _ => none) 0 (some s_l0)) 1 (some s_l1)) 2 (some s_l2))))))), (s_l0, .inl (cy 0, 24, .inl (fun _ => 0))), (s_l1, .inl (cy 0, 24, .inl (fun _ => 0))), (s_l2, .inl (cy 0, 24, .inl (fun _ => 0))), (s_pr, .inl (cy 0, 576, .inl (fun _ => 0)))]) [0, 1, 2, 3, 4, 5, 6, 7, 8, 9, 10, 11, 12, 13, 14, 15, 16, 17, 18, 19, 20, 21, 22, 23, 24, 25, 26, 27, 28, 29, 30, 31, 32, 33, 34, 35, 36, 37, 38, 39, 40, 41, 42, 43, 44, 45, 46, 47, 48, 49, 50, 51, 52, 53] rfl
  have hD9 := hD.sub (ws' := [(h0, .inr (4, [.ref q1, .int 0, .int 0, .int 0, .ref q2, .ref q5, .ref q8, .ref q11, .int 0])), (q1, .inl (cy 0, 26, .inl (fun _ => 0))), (q2, .inr (2, [.int 0, .int 0, .int 0, .ref ar_0])), (ar_0, .inl (cy 2, 3, .inr (.inr (.inr (.inr (va_up (va_up (va_up (fun _ => none) 0 (some c0_0)) 1 (some c1_0)) 2 (some c2_0))))))), (c0_0, .inr (0, [.int 0, .int 31, .ref r0_0])), (r0_0, .inl (cy 0, 6, .inl (fun _ => 0))), (c1_0, .inr (0, [.int 0, .int 31, .ref r1_0])), (r1_0, .inl (cy 0, 6, .inl (fun _ => 0))), (c2_0, .inr (0, [.int 0, .int 31, .ref r2_0])), (r2_0, .inl (cy 0, 6, .inl (fun _ => 0))), (q5, .inr (2, [.int 0, .int 0, .int 0, .ref ar_1])), (ar_1, .inl (cy 2, 3, .inr (.inr (.inr (.inr (va_up (va_up (va_up (fun _ => none) 0 (some c0_1)) 1 (some c1_1)) 2 (some c2_1))))))), (c0_1, .inr (0, [.int 0, .int 31, .ref r0_1])), (r0_1, .inl (cy 0, 6, .inl (fun _ => 0))), (c1_1, .inr (0, [.int 0, .int 31, .ref r1_1])), (r1_1, .inl (cy 0, 6, .inl (fun _ => 0))), (c2_1, .inr (0, [.int 0, .int 31, .ref r2_1])), (r2_1, .inl (cy 0, 6, .inl (fun _ => 0))), (q8, .inr (2, [.int 0, .int 0, .int 0, .ref ar_2])), (ar_2, .inl (cy 2, 3, .inr (.inr (.inr (.inr (va_up (va_up (va_up (fun _ => none) 0 (some c0_2)) 1 (some c1_2)) 2 (some c2_2))))))), (c0_2, .inr (0, [.int 0, .int 31, .ref r0_2])), (r0_2, .inl (cy 0, 6, .inl (fun _ => 0))), (c1_2, .inr (0, [.int 0, .int 31, .ref r1_2])), (r1_2, .inl (cy 0, 6, .inl (fun _ => 0))), (c2_2, .inr (0, [.int 0, .int 31, .ref r2_2])), (r2_2, .inl (cy 0, 6, .inl (fun _ => 0))), (q11, .inr (1, [.ref s_wk, .ref s_wc, .ref s_wl, .ref s_pr, .int 0, .int 0, .int 0, .int 0, .int 0])), (s_wk, .inl (cy 3, 5, .inr (.inr (.inr (.inr (va_up (va_up (va_up (va_up (va_up (fun _ => none) 0 (some s_o0)) 1 (some s_o1)) 2 (some s_o2)) 3 (some s_o3)) 4 (some s_o4))))))), (s_o0, .inr (3, [.int (nI s_z0), .ref s_a0, .ref s_b0, .ref s_d0])), (s_a0, .inl (cy 0, 150, .inl s_f0)), (s_b0, .inl (cy 0, 24, .inl s_g0)), (s_d0, .inl (cy 0, 24, .inl s_y0)), (s_o1, .inr (3, [.int (nI s_z1), .ref s_a1, .ref s_b1, .ref s_d1])), (s_a1, .inl (cy 0, 150, .inl s_f1)), (s_b1, .inl (cy 0, 24, .inl s_g1)), (s_d1, .inl (cy 0, 24, .inl s_y1)), (s_o2, .inr (3, [.int (nI s_z2), .ref s_a2, .ref s_b2, .ref s_d2])), (s_a2, .inl (cy 0, 150, .inl s_f2)), (s_b2, .inl (cy 0, 24, .inl s_g2)), (s_d2, .inl (cy 0, 24, .inl s_y2)), (s_o3, .inr (3, [.int (nI s_z3), .ref s_a3, .ref s_b3, .ref s_d3])), (s_a3, .inl (cy 0, 150, .inl s_f3)), (s_b3, .inl (cy 0, 24, .inl s_g3)), (s_d3, .inl (cy 0, 24, .inl s_y3)), (s_o4, .inr (3, [.int (nI s_z4), .ref s_a4, .ref s_b4, .ref s_d4])), (s_a4, .inl (cy 0, 150, .inl s_f4)), (s_b4, .inl (cy 0, 24, .inl s_g4)), (s_d4, .inl (cy 0, 24, .inl s_y4)), (s_wc, .inl (cy 3, 3, .inr (.inr (.inr (.inr (va_up (va_up (va_up (fun _ => none) 0 (some s_o3)) 1 (some s_o3)) 2 (some s_o3))))))), (s_wl, .inl (cy 4, 3, .inr (.inr (.inr (.inr (va_up (va_up (va_up (fun _ => none) 0 (some s_l0)) 1 (some s_l1)) 2 (some s_l2))))))), (s_l0, .inl (cy 0, 24, .inl (fun _ => 0))), (s_l1, .inl (cy 0, 24, .inl (fun _ => 0))), (s_l2, .inl (cy 0, 24, .inl (fun _ => 0))), (s_pr, .inl (cy 0, 576, .inl (fun _ => 0)))]) [0, 1, 2, 3, 4, 5, 6, 7, 8, 9, 10, 11, 12, 13, 14, 15, 16, 17, 18, 19, 20, 21, 22, 23, 24, 25, 26, 27, 28, 29, 30, 31, 32, 33, 34, 35, 36, 37, 38, 39, 40, 41, 42, 43, 44, 45, 46, 47, 48, 49, 50, 51, 52, 53] (by decide) rfl
  exact W.vret hx hb hr (fun t9 ht9 hW9 => ⟨⟨[(h0, .inr (4, [.ref q1, .int 0, .int 0, .int 0, .ref q2, .ref q5, .ref q8, .ref q11, .int 0])), (q1, .inl (cy 0, 26, .inl (fun _ => 0))), (q2, .inr (2, [.int 0, .int 0, .int 0, .ref ar_0])), (ar_0, .inl (cy 2, 3, .inr (.inr (.inr (.inr (va_up (va_up (va_up (fun _ => none) 0 (some c0_0)) 1 (some c1_0)) 2 (some c2_0))))))), (c0_0, .inr (0, [.int 0, .int 31, .ref r0_0])), (r0_0, .inl (cy 0, 6, .inl (fun _ => 0))), (c1_0, .inr (0, [.int 0, .int 31, .ref r1_0])), (r1_0, .inl (cy 0, 6, .inl (fun _ => 0))), (c2_0, .inr (0, [.int 0, .int 31, .ref r2_0])), (r2_0, .inl (cy 0, 6, .inl (fun _ => 0))), (q5, .inr (2, [.int 0, .int 0, .int 0, .ref ar_1])), (ar_1, .inl (cy 2, 3, .inr (.inr (.inr (.inr (va_up (va_up (va_up (fun _ => none) 0 (some c0_1)) 1 (some c1_1)) 2 (some c2_1))))))), (c0_1, .inr (0, [.int 0, .int 31, .ref r0_1])), (r0_1, .inl (cy 0, 6, .inl (fun _ => 0))), (c1_1, .inr (0, [.int 0, .int 31, .ref r1_1])), (r1_1, .inl (cy 0, 6, .inl (fun _ => 0))), (c2_1, .inr (0, [.int 0, .int 31, .ref r2_1])), (r2_1, .inl (cy 0, 6, .inl (fun _ => 0))), (q8, .inr (2, [.int 0, .int 0, .int 0, .ref ar_2])), (ar_2, .inl (cy 2, 3, .inr (.inr (.inr (.inr (va_up (va_up (va_up (fun _ => none) 0 (some c0_2)) 1 (some c1_2)) 2 (some c2_2))))))), (c0_2, .inr (0, [.int 0, .int 31, .ref r0_2])), (r0_2, .inl (cy 0, 6, .inl (fun _ => 0))), (c1_2, .inr (0, [.int 0, .int 31, .ref r1_2])), (r1_2, .inl (cy 0, 6, .inl (fun _ => 0))), (c2_2, .inr (0, [.int 0, .int 31, .ref r2_2])), (r2_2, .inl (cy 0, 6, .inl (fun _ => 0))), (q11, .inr (1, [.ref s_wk, .ref s_wc, .ref s_wl, .ref s_pr, .int 0, .int 0, .int 0, .int 0, .int 0])), (s_wk, .inl (cy 3, 5, .inr (.inr (.inr (.inr (va_up (va_up (va_up (va_up (va_up (fun _ => none) 0 (some s_o0)) 1 (some s_o1)) 2 (some s_o2)) 3 (some s_o3)) 4 (some s_o4))))))), (s_o0, .inr (3, [.int (nI s_z0), .ref s_a0, .ref s_b0, .ref s_d0])), (s_a0, .inl (cy 0, 150, .inl s_f0)), (s_b0, .inl (cy 0, 24, .inl s_g0)), (s_d0, .inl (cy 0, 24, .inl s_y0)), (s_o1, .inr (3, [.int (nI s_z1), .ref s_a1, .ref s_b1, .ref s_d1])), (s_a1, .inl (cy 0, 150, .inl s_f1)), (s_b1, .inl (cy 0, 24, .inl s_g1)), (s_d1, .inl (cy 0, 24, .inl s_y1)), (s_o2, .inr (3, [.int (nI s_z2), .ref s_a2, .ref s_b2, .ref s_d2])), (s_a2, .inl (cy 0, 150, .inl s_f2)), (s_b2, .inl (cy 0, 24, .inl s_g2)), (s_d2, .inl (cy 0, 24, .inl s_y2)), (s_o3, .inr (3, [.int (nI s_z3), .ref s_a3, .ref s_b3, .ref s_d3])), (s_a3, .inl (cy 0, 150, .inl s_f3)), (s_b3, .inl (cy 0, 24, .inl s_g3)), (s_d3, .inl (cy 0, 24, .inl s_y3)), (s_o4, .inr (3, [.int (nI s_z4), .ref s_a4, .ref s_b4, .ref s_d4])), (s_a4, .inl (cy 0, 150, .inl s_f4)), (s_b4, .inl (cy 0, 24, .inl s_g4)), (s_d4, .inl (cy 0, 24, .inl s_y4)), (s_wc, .inl (cy 3, 3, .inr (.inr (.inr (.inr (va_up (va_up (va_up (fun _ => none) 0 (some s_o3)) 1 (some s_o3)) 2 (some s_o3))))))), (s_wl, .inl (cy 4, 3, .inr (.inr (.inr (.inr (va_up (va_up (va_up (fun _ => none) 0 (some s_l0)) 1 (some s_l1)) 2 (some s_l2))))))), (s_l0, .inl (cy 0, 24, .inl (fun _ => 0))), (s_l1, .inl (cy 0, 24, .inl (fun _ => 0))), (s_l2, .inl (cy 0, 24, .inl (fun _ => 0))), (s_pr, .inl (cy 0, 576, .inl (fun _ => 0)))], rfl, ⟨q1, q2, ar_0, c0_0, r0_0, c1_0, r1_0, c2_0, r2_0, q5, ar_1, c0_1, r0_1, c1_1, r1_1, c2_1, r2_1, q8, ar_2, c0_2, r0_2, c1_2, r1_2, c2_2, r2_2, q11, s_wk, s_wc, s_wl, s_l0, s_l1, s_l2, s_pr, s_o0, s_a0, s_b0, s_d0, s_z0, s_f0, s_g0, s_y0, s_o1, s_a1, s_b1, s_d1, s_z1, s_f1, s_g1, s_y1, s_o2, s_a2, s_b2, s_d2, s_z2, s_f2, s_g2, s_y2, s_o3, s_a3, s_b3, s_d3, s_z3, s_f3, s_g3, s_y3, s_o4, s_a4, s_b4, s_d4, s_z4, s_f4, s_g4, s_y4, rfl, sf_0, sf_1, sf_2, sf_3, sf_4, sf_5, sf_6, sf_7, sf_8, sf_9, sf_10, sf_11, sf_12, sf_13, sf_14⟩, by rw [ht9]; exact hP9, hD9⟩, hS.F ht9⟩) hS.2.2 dX4_init_56
end
