def wch : List (List Cond) := [wsL_law_r1, wsL_law_r2, wsL_law_r3, wsL_law_r4, wsL_law_r5, wsL_law_r6, wsL_law_r7, wsL_law_r8, wsL_law_r9, wsL_law_r10, wsL_law_r11, wsL_law_r12, wsL_law_r13, wsL_law_r14, wsL_law_r15, wsL_law_r16, wsL_law_r17, wsL_law_r18, wsL_law_r19, wsL_law_r20, wsL_law_r21, wsL_law_r22, wsL_law_r23, wsL_law_r24, wsL_law_r25, wsL_law_r26, wsL_law_r27, wsL_law_r28, wsL_law_r29, wsL_law_r30, wsL_law_r31, wsL_law_r32, wsX40, wsX50, wsX20, wsX10, wsX00, wsX30]
def wAt (n : Nat) : Option Cond := (wch.getD (n / 64) [])[n % 64]?
def pickW (l : List Nat) : List Cond := l.filterMap wAt
def subS : List Nat → List Nat → Bool
  | l, [] => l.isEmpty
  | l, b :: m => match l with
    | [] => true
    | a :: k => if a == b then subS k m else subS (a :: k) m
theorem subS_mem : ∀ (l m : List Nat), subS l m = true → ∀ a ∈ l, a ∈ m
  | l, [], h, a, ha => by
    cases l with
    | nil => exact ha
    | cons x k => simp [subS] at h
  | [], b :: m, _, a, ha => absurd ha List.not_mem_nil
  | x :: k, b :: m, h, a, ha => by
    have h : (if x == b then subS k m else subS (x :: k) m) = true := h
    by_cases e : (x == b) = true
    · rw [if_pos e] at h
      rcases List.mem_cons.mp ha with q | q
      · rw [q, eq_of_beq e]
        exact List.mem_cons_self
      · exact List.mem_cons_of_mem _ (subS_mem k m h a q)
    · rw [if_neg e] at h
      exact List.mem_cons_of_mem _ (subS_mem (x :: k) m h a ha)
theorem inW {n : Nat} {w : Cond} {l : List Nat} (hw : wAt n = some w) (h : n ∈ l) : w ∈ pickW l := List.mem_filterMap.mpr ⟨n, h, hw⟩
theorem inC {n : Nat} {w a : Cond} {l : List Nat} (hw : wAt n = some w) (h : n ∈ l) : w ∈ a :: pickW l := List.mem_cons_of_mem _ (inW hw h)
theorem wch_good : ∀ c ∈ wch, ∀ w ∈ c, goodWord w = true := by decide +kernel
theorem wAt_ch {n : Nat} {w : Cond} (h : wAt n = some w) : ∃ c ∈ wch, w ∈ c := by
  unfold wAt at h
  have h1 := List.mem_of_getElem? h
  rw [List.getD_eq_getElem?_getD] at h1
  cases e : wch[n / 64]? with
  | none => rw [e] at h1; exact absurd h1 List.not_mem_nil
  | some c => rw [e] at h1; exact ⟨c, List.mem_of_getElem? e, h1⟩
theorem wAt_good {n : Nat} {w : Cond} (h : wAt n = some w) : (w.onTables && w.keeps) = true ∨ ∃ ty, w = .arrayClass ty := by
  obtain ⟨c, h1, h2⟩ := wAt_ch h
  exact good_of_word (wch_good c h1 w h2)
theorem gdW {A B : List Nat} {a b : Cond} {n : Nat} (hn : wAt n = some b) (hB : n ∈ B) (h : subS B A = true) : GoodIn (a :: pickW A) (b :: pickW B) := by
  have key : ∀ w ∈ pickW B, w ∈ a :: pickW A ∧ ((w.onTables && w.keeps) = true ∨ ∃ ty, w = .arrayClass ty) := fun w hw => by
    obtain ⟨i, hi, e⟩ := List.mem_filterMap.mp hw
    exact ⟨inC e (subS_mem B A h i hi), wAt_good e⟩
  intro w hw
  rcases List.mem_cons.mp hw with q | q
  · rw [q]
    exact key b (inW hn hB)
  · exact key w q
theorem gd1 {A : List Nat} {a w : Cond} {n : Nat} {ws : List Cond} (hn : wAt n = some w) (hA : n ∈ A) (hs : GoodIn (a :: pickW A) ws) : GoodIn (a :: pickW A) (w :: ws) := by
  intro x hx
  rcases List.mem_cons.mp hx with q | q
  · rw [q]
    exact ⟨inC hn hA, wAt_good hn⟩
  · exact hs x q
theorem chW {A : List Nat} {a : Cond} {c len : Nat} {L : List Cond} (hc : wch[c]? = some L) (hl : L.length = len) (h64 : len ≤ 64) (h : (List.range len).all (fun j => decide (64 * c + j ∈ A)) = true) : ∀ w ∈ L, w ∈ a :: pickW A := by
  intro w hw
  obtain ⟨j, hj, e⟩ := List.getElem_of_mem hw
  have h1 := List.all_eq_true.mp h j (List.mem_range.mpr (by omega))
  refine inC (n := 64 * c + j) ?_ (of_decide_eq_true h1)
  unfold wAt
  rw [show (64 * c + j) / 64 = c by omega, show (64 * c + j) % 64 = j by omega, List.getD_eq_getElem?_getD, hc]
  show L[j]? = some w
  rw [List.getElem?_eq_getElem hj, e]
theorem wa_0 : wAt 0 = some (.classLink RL 7 RX4) := rfl
theorem wa_1 : wAt 1 = some (.instantiable RX4 9) := rfl
theorem wa_2 : wAt 2 = some (.initialized RX4) := rfl
theorem wa_3 : wAt 3 = some (.classLink RL 10 RX5) := rfl
theorem wa_4 : wAt 4 = some (.instantiable RX5 30) := rfl
theorem wa_5 : wAt 5 = some (.initialized RX5) := rfl
theorem wa_6 : wAt 6 = some (.methodLink RL 9 yX4_init) := rfl
theorem wa_7 : wAt 7 = some (.instanceMethod yX4_init) := rfl
theorem wa_8 : wAt 8 = some (.code yX4_init cX4_init 1 none) := rfl
theorem wa_9 : wAt 9 = some (.methodLink RX4 3 objectInit) := rfl
theorem wa_10 : wAt 10 = some (.instanceMethod objectInit) := rfl
theorem wa_11 : wAt 11 = some (.code objectInit ⟨#[0xb1]⟩ 1 none) := rfl
theorem wa_12 : wAt 12 = some (.arrayClass .int) := rfl
theorem wa_13 : wAt 13 = some (.fieldLink RX4 9 "CubeTower" "page" "[I") := rfl
theorem wa_14 : wAt 14 = some (.classLink RX4 13 RX2) := rfl
theorem wa_15 : wAt 15 = some (.instantiable RX2 4) := rfl
theorem wa_16 : wAt 16 = some (.initialized RX2) := rfl
theorem wa_17 : wAt 17 = some (.fieldLink RX4 16 "CubeTower" "now" "LCubeTower$Tower;") := rfl
theorem wa_18 : wAt 18 = some (.fieldLink RX4 20 "CubeTower" "kept" "LCubeTower$Tower;") := rfl
theorem wa_19 : wAt 19 = some (.fieldLink RX4 23 "CubeTower" "trial" "LCubeTower$Tower;") := rfl
theorem wa_20 : wAt 20 = some (.classLink RX4 26 RX1) := rfl
theorem wa_21 : wAt 21 = some (.instantiable RX1 9) := rfl
theorem wa_22 : wAt 22 = some (.initialized RX1) := rfl
theorem wa_23 : wAt 23 = some (.fieldLink RX4 29 "CubeTower" "survey" "LCubeTower$Survey;") := rfl
theorem wa_64 : wAt 64 = some (.instanceMethod yX2_init) := rfl
theorem wa_65 : wAt 65 = some (.code yX2_init cX2_init 1 none) := rfl
theorem wa_66 : wAt 66 = some (.methodLink RX2 3 objectInit) := rfl
theorem wa_67 : wAt 67 = some (.classLink RX2 9 RX0) := rfl
theorem wa_68 : wAt 68 = some (.instantiable RX0 3) := rfl
theorem wa_69 : wAt 69 = some (.initialized RX0) := rfl
theorem wa_70 : wAt 70 = some (.fieldLink RX2 12 "CubeTower$Tower" "cubes" "[LCubeTower$Cube;") := rfl
theorem wa_71 : wAt 71 = some (.instanceMethod yX0_init) := rfl
theorem wa_72 : wAt 72 = some (.code yX0_init cX0_init 1 none) := rfl
theorem wa_73 : wAt 73 = some (.methodLink RX0 3 objectInit) := rfl
theorem wa_74 : wAt 74 = some (.fieldLink RX0 9 "CubeTower$Cube" "sorts" "I") := rfl
theorem wa_75 : wAt 75 = some (.fieldLink RX0 15 "CubeTower$Cube" "colours" "[I") := rfl
theorem wa_76 : wAt 76 = some (.instanceMethod yX1_init) := rfl
theorem wa_77 : wAt 77 = some (.code yX1_init cX1_init 1 none) := rfl
theorem wa_78 : wAt 78 = some (.methodLink RX1 3 objectInit) := rfl
theorem wa_79 : wAt 79 = some (.classLink RX1 9 RX3) := rfl
theorem wa_80 : wAt 80 = some (.instantiable RX3 4) := rfl
theorem wa_81 : wAt 81 = some (.initialized RX3) := rfl
theorem wa_82 : wAt 82 = some (.fieldLink RX1 14 "CubeTower$Survey" "waysOfKind" "[LCubeTower$Ways;") := rfl
theorem wa_83 : wAt 83 = some (.fieldLink RX1 20 "CubeTower$Survey" "waysOfCube" "[LCubeTower$Ways;") := rfl
theorem wa_84 : wAt 84 = some (.classLink RX1 23 "[[I") := rfl
theorem wa_85 : wAt 85 = some (.fieldLink RX1 25 "CubeTower$Survey" "walls" "[[I") := rfl
theorem wa_86 : wAt 86 = some (.fieldLink RX1 28 "CubeTower$Survey" "pairs" "[I") := rfl
theorem wa_87 : wAt 87 = some (.methodLink RX1 11 yX3_init) := rfl
theorem wa_128 : wAt 128 = some (.instanceMethod yX3_init) := rfl
theorem wa_129 : wAt 129 = some (.code yX3_init cX3_init 4 none) := rfl
theorem wa_130 : wAt 130 = some (.methodLink RX3 3 objectInit) := rfl
theorem wa_131 : wAt 131 = some (.fieldLink RX3 9 "CubeTower$Ways" "size" "I") := rfl
theorem wa_132 : wAt 132 = some (.fieldLink RX3 15 "CubeTower$Ways" "sideAt" "[I") := rfl
theorem wa_133 : wAt 133 = some (.fieldLink RX3 19 "CubeTower$Ways" "turnsTo" "[I") := rfl
theorem wa_134 : wAt 134 = some (.fieldLink RX3 22 "CubeTower$Ways" "firstTurns" "[I") := rfl
theorem wa_135 : wAt 135 = some (.static yX4_canTurn) := rfl
theorem wa_136 : wAt 136 = some (.code yX4_canTurn cX4_canTurn 2 (some .boolean)) := rfl
theorem wa_137 : wAt 137 = some (.fieldLink RX4 102 "CubeTower" "TURNS_OF_KIND" "[I") := rfl
theorem wa_138 : wAt 138 = some (.methodLink RX3 29 yX3_reach) := rfl
theorem wa_139 : wAt 139 = some (.instanceMethod yX3_reach) := rfl
theorem wa_140 : wAt 140 = some (.selects RX3 yX3_reach yX3_reach) := rfl
theorem wa_141 : wAt 141 = some (.code yX3_reach cX3_reach 5 none) := rfl
theorem wa_142 : wAt 142 = some (.methodLink RX3 33 arraycopyName) := rfl
theorem wa_143 : wAt 143 = some (.native arraycopyName) := rfl
theorem wa_144 : wAt 144 = some (.static arraycopyName) := rfl
theorem wa_145 : wAt 145 = some (.initialized "java/lang/System") := rfl
theorem wa_146 : wAt 146 = some (.static yX4_turnRow) := rfl
theorem wa_147 : wAt 147 = some (.code yX4_turnRow cX4_turnRow 10 none) := rfl
theorem wa_148 : wAt 148 = some (.fieldLink RX4 134 "CubeTower" "RINGS" "[I") := rfl
theorem wa_149 : wAt 149 = some (.methodLink RX3 43 yX3_find) := rfl
theorem wa_150 : wAt 150 = some (.instanceMethod yX3_find) := rfl
theorem wa_151 : wAt 151 = some (.selects RX3 yX3_find yX3_find) := rfl
theorem wa_192 : wAt 192 = some (.code yX3_find cX3_find 2 (some .int)) := rfl
theorem wa_193 : wAt 193 = some (.methodLink RX3 47 yX3_sameRows) := rfl
theorem wa_194 : wAt 194 = some (.instanceMethod yX3_sameRows) := rfl
theorem wa_195 : wAt 195 = some (.selects RX3 yX3_sameRows yX3_sameRows) := rfl
theorem wa_196 : wAt 196 = some (.code yX3_sameRows cX3_sameRows 4 (some .boolean)) := rfl
theorem wa_197 : wAt 197 = some (.methodLink RL 12 yX5_init) := rfl
theorem wa_198 : wAt 198 = some (.instanceMethod yX5_init) := rfl
theorem wa_199 : wAt 199 = some (.code yX5_init cX5_init 1 none) := rfl
theorem wa_200 : wAt 200 = some (.methodLink RX5 1 objectInit) := rfl
theorem wa_201 : wAt 201 = some (.fieldLink RX5 7 "CubeTowerModel" "kindOf" "[I") := rfl
theorem wa_202 : wAt 202 = some (.fieldLink RX5 13 "CubeTowerModel" "lies" "[I") := rfl
theorem wa_203 : wAt 203 = some (.fieldLink RX5 16 "CubeTowerModel" "seenCube" "[I") := rfl
theorem wa_204 : wAt 204 = some (.fieldLink RX5 19 "CubeTowerModel" "seenWhat" "[I") := rfl
theorem wa_205 : wAt 205 = some (.fieldLink RX5 22 "CubeTowerModel" "seenCould" "[I") := rfl
theorem wa_206 : wAt 206 = some (.arrayClass .byte) := rfl
theorem wa_207 : wAt 207 = some (.fieldLink RX5 25 "CubeTowerModel" "page" "[B") := rfl
theorem wa_208 : wAt 208 = some (.fieldLink RX5 29 "CubeTowerModel" "wayOf" "[I") := rfl
theorem wa_209 : wAt 209 = some (.fieldLink RX5 32 "CubeTowerModel" "farOf" "[I") := rfl
theorem wa_210 : wAt 210 = some (.fieldLink RX5 35 "CubeTowerModel" "manyOf" "[I") := rfl
theorem wa_211 : wAt 211 = some (.fieldLink RX5 38 "CubeTowerModel" "colourOf" "[I") := rfl
theorem wa_212 : wAt 212 = some (.fieldLink RX5 41 "CubeTowerModel" "thought" "[I") := rfl
theorem wa_213 : wAt 213 = some (.fieldLink RX5 44 "CubeTowerModel" "keptKind" "[I") := rfl
theorem wa_214 : wAt 214 = some (.fieldLink RX5 47 "CubeTowerModel" "keptLies" "[I") := rfl
theorem wa_215 : wAt 215 = some (.fieldLink RX5 50 "CubeTowerModel" "keptCube" "[I") := rfl
theorem wa_256 : wAt 256 = some (.fieldLink RX5 53 "CubeTowerModel" "keptWhat" "[I") := rfl
theorem wa_257 : wAt 257 = some (.fieldLink RX5 56 "CubeTowerModel" "keptCould" "[I") := rfl
theorem wa_258 : wAt 258 = some (.methodLink RL 13 yX4_letter) := rfl
theorem wa_259 : wAt 259 = some (.instanceMethod yX4_letter) := rfl
theorem wa_260 : wAt 260 = some (.selects RX4 yX4_letter yX4_letter) := rfl
theorem wa_261 : wAt 261 = some (.code yX4_letter cX4_letter 2 (some .int)) := rfl
theorem wa_262 : wAt 262 = some (.fieldLink RX4 33 "CubeTower" "letters" "I") := rfl
theorem wa_263 : wAt 263 = some (.methodLink RL 17 yX5_letter) := rfl
theorem wa_264 : wAt 264 = some (.instanceMethod yX5_letter) := rfl
theorem wa_265 : wAt 265 = some (.selects RX5 yX5_letter yX5_letter) := rfl
theorem wa_266 : wAt 266 = some (.code yX5_letter cX5_letter 2 (some .int)) := rfl
theorem wa_267 : wAt 267 = some (.fieldLink RX5 63 "CubeTowerModel" "pageLength" "I") := rfl
theorem wa_268 : wAt 268 = some (.methodLink RX5 59 yX5_within) := rfl
theorem wa_269 : wAt 269 = some (.static yX5_within) := rfl
theorem wa_270 : wAt 270 = some (.code yX5_within cX5_within 3 (some .boolean)) := rfl
theorem wa_271 : wAt 271 = some (.methodLink RL 18 yX4_blank) := rfl
theorem wa_272 : wAt 272 = some (.instanceMethod yX4_blank) := rfl
theorem wa_273 : wAt 273 = some (.selects RX4 yX4_blank yX4_blank) := rfl
theorem wa_274 : wAt 274 = some (.code yX4_blank cX4_blank 2 (some .int)) := rfl
theorem wa_275 : wAt 275 = some (.methodLink RL 22 yX5_blank) := rfl
theorem wa_276 : wAt 276 = some (.instanceMethod yX5_blank) := rfl
theorem wa_277 : wAt 277 = some (.selects RX5 yX5_blank yX5_blank) := rfl
theorem wa_278 : wAt 278 = some (.code yX5_blank cX5_blank 2 (some .int)) := rfl
theorem wa_279 : wAt 279 = some (.methodLink RL 23 yX4_fault) := rfl
theorem wa_320 : wAt 320 = some (.instanceMethod yX4_fault) := rfl
theorem wa_321 : wAt 321 = some (.selects RX4 yX4_fault yX4_fault) := rfl
theorem wa_322 : wAt 322 = some (.code yX4_fault cX4_fault 2 (some .int)) := rfl
theorem wa_323 : wAt 323 = some (.methodLink RX4 37 yX4_fits) := rfl
theorem wa_324 : wAt 324 = some (.static yX4_fits) := rfl
theorem wa_325 : wAt 325 = some (.code yX4_fits cX4_fits 3 (some .boolean)) := rfl
theorem wa_326 : wAt 326 = some (.methodLink RX4 61 yJ0_indexOf_0f7a4) := rfl
theorem wa_327 : wAt 327 = some (.instanceMethod yJ0_indexOf_0f7a4) := rfl
theorem wa_328 : wAt 328 = some (.selects RJ0 yJ0_indexOf_0f7a4 yJ0_indexOf_0f7a4) := rfl
theorem wa_329 : wAt 329 = some (.initialized RJ0) := rfl
theorem wa_330 : wAt 330 = some (.code yJ0_indexOf_0f7a4 cJ0_indexOf_0f7a4 2 (some .int)) := rfl
theorem wa_331 : wAt 331 = some (.methodLink RJ0 633 yJ0_indexOf_7cf53) := rfl
theorem wa_332 : wAt 332 = some (.instanceMethod yJ0_indexOf_7cf53) := rfl
theorem wa_333 : wAt 333 = some (.selects RJ0 yJ0_indexOf_7cf53 yJ0_indexOf_7cf53) := rfl
theorem wa_334 : wAt 334 = some (.code yJ0_indexOf_7cf53 cJ0_indexOf_7cf53 3 (some .int)) := rfl
theorem wa_335 : wAt 335 = some (.fieldLink RJ0 9 "java/lang/String" "value" "[B") := rfl
theorem wa_336 : wAt 336 = some (.methodLink RJ0 492 yJ0_isLatin1_aae02) := rfl
theorem wa_337 : wAt 337 = some (.instanceMethod yJ0_isLatin1_aae02) := rfl
theorem wa_338 : wAt 338 = some (.selects RJ0 yJ0_isLatin1_aae02 yJ0_isLatin1_aae02) := rfl
theorem wa_339 : wAt 339 = some (.code yJ0_isLatin1_aae02 cJ0_isLatin1_aae02 1 (some .boolean)) := rfl
theorem wa_340 : wAt 340 = some (.fieldLink RJ0 38 "java/lang/String" "COMPACT_STRINGS" "Z") := rfl
theorem wa_341 : wAt 341 = some (.fieldLink RJ0 15 "java/lang/String" "coder" "B") := rfl
theorem wa_342 : wAt 342 = some (.methodLink RJ0 505 yJ0_length_8abf5) := rfl
theorem wa_343 : wAt 343 = some (.instanceMethod yJ0_length_8abf5) := rfl
theorem wa_384 : wAt 384 = some (.selects RJ0 yJ0_length_8abf5 yJ0_length_8abf5) := rfl
theorem wa_385 : wAt 385 = some (.code yJ0_length_8abf5 cJ0_length_8abf5 1 (some .int)) := rfl
theorem wa_386 : wAt 386 = some (.methodLink RJ0 335 yJ0_coder_7d493) := rfl
theorem wa_387 : wAt 387 = some (.instanceMethod yJ0_coder_7d493) := rfl
theorem wa_388 : wAt 388 = some (.selects RJ0 yJ0_coder_7d493 yJ0_coder_7d493) := rfl
theorem wa_389 : wAt 389 = some (.code yJ0_coder_7d493 cJ0_coder_7d493 1 (some .byte)) := rfl
theorem wa_390 : wAt 390 = some (.methodLink RJ0 637 yJ1_indexOf_4cfef) := rfl
theorem wa_391 : wAt 391 = some (.static yJ1_indexOf_4cfef) := rfl
theorem wa_392 : wAt 392 = some (.initialized RJ1) := rfl
theorem wa_393 : wAt 393 = some (.code yJ1_indexOf_4cfef cJ1_indexOf_4cfef 4 (some .int)) := rfl
theorem wa_394 : wAt 394 = some (.methodLink RJ1 92 Lib.Math.max.name) := rfl
theorem wa_395 : wAt 395 = some (.static Lib.Math.max.name) := rfl
theorem wa_396 : wAt 396 = some (.initialized "java/lang/Math") := rfl
theorem wa_397 : wAt 397 = some (.code Lib.Math.max.name Lib.Math.max.code 2 (some .int)) := rfl
theorem wa_398 : wAt 398 = some (.methodLink RJ1 38 Lib.Math.min.name) := rfl
theorem wa_399 : wAt 399 = some (.static Lib.Math.min.name) := rfl
theorem wa_400 : wAt 400 = some (.code Lib.Math.min.name Lib.Math.min.code 2 (some .int)) := rfl
theorem wa_401 : wAt 401 = some (.methodLink RJ1 88 yJ1_canEncode_9a6ad) := rfl
theorem wa_402 : wAt 402 = some (.static yJ1_canEncode_9a6ad) := rfl
theorem wa_403 : wAt 403 = some (.code yJ1_canEncode_9a6ad cJ1_canEncode_9a6ad 1 (some .boolean)) := rfl
theorem wa_404 : wAt 404 = some (.methodLink RJ1 95 yJ1_indexOfChar_4cfef) := rfl
theorem wa_405 : wAt 405 = some (.static yJ1_indexOfChar_4cfef) := rfl
theorem wa_406 : wAt 406 = some (.code yJ1_indexOfChar_4cfef cJ1_indexOfChar_4cfef 6 (some .int)) := rfl
theorem wa_407 : wAt 407 = some (.methodLink RJ0 640 yJ2_indexOf_4cfef) := rfl
theorem wa_448 : wAt 448 = some (.static yJ2_indexOf_4cfef) := rfl
theorem wa_449 : wAt 449 = some (.initialized RJ2) := rfl
theorem wa_450 : wAt 450 = some (.code yJ2_indexOf_4cfef cJ2_indexOf_4cfef 4 (some .int)) := rfl
theorem wa_451 : wAt 451 = some (.methodLink RJ2 224 Lib.Math.max.name) := rfl
theorem wa_452 : wAt 452 = some (.methodLink RJ2 183 Lib.Math.min.name) := rfl
theorem wa_453 : wAt 453 = some (.constant RJ2 227 (65536)) := rfl
theorem wa_454 : wAt 454 = some (.methodLink RJ2 228 yJ2_indexOfChar_4cfef) := rfl
theorem wa_455 : wAt 455 = some (.static yJ2_indexOfChar_4cfef) := rfl
theorem wa_456 : wAt 456 = some (.code yJ2_indexOfChar_4cfef cJ2_indexOfChar_4cfef 4 (some .int)) := rfl
theorem wa_457 : wAt 457 = some (.methodLink RJ2 96 yJ2_checkBoundsBeginEnd_d044e) := rfl
theorem wa_458 : wAt 458 = some (.static yJ2_checkBoundsBeginEnd_d044e) := rfl
theorem wa_459 : wAt 459 = some (.code yJ2_checkBoundsBeginEnd_d044e cJ2_checkBoundsBeginEnd_d044e 3 none) := rfl
theorem wa_460 : wAt 460 = some (.methodLink RJ2 48 yJ2_length_9d52b) := rfl
theorem wa_461 : wAt 461 = some (.static yJ2_length_9d52b) := rfl
theorem wa_462 : wAt 462 = some (.code yJ2_length_9d52b cJ2_length_9d52b 1 (some .int)) := rfl
theorem wa_463 : wAt 463 = some (.methodLink RJ2 241 yJ0_checkBoundsBeginEnd_23922) := rfl
theorem wa_464 : wAt 464 = some (.static yJ0_checkBoundsBeginEnd_23922) := rfl
theorem wa_465 : wAt 465 = some (.code yJ0_checkBoundsBeginEnd_23922 cJ0_checkBoundsBeginEnd_23922 3 none) := rfl
theorem wa_466 : wAt 466 = some (.fieldLink RJ0 1053 "jdk/internal/util/Preconditions" "SIOOBE_FORMATTER" "Ljava/util/function/BiFunction;") := rfl
theorem wa_467 : wAt 467 = some (.methodLink RJ0 1062 yJ3_checkFromToIndex_8c36e) := rfl
theorem wa_468 : wAt 468 = some (.static yJ3_checkFromToIndex_8c36e) := rfl
theorem wa_469 : wAt 469 = some (.initialized RJ3) := rfl
theorem wa_470 : wAt 470 = some (.code yJ3_checkFromToIndex_8c36e cJ3_checkFromToIndex_8c36e 4 (some .int)) := rfl
theorem wa_471 : wAt 471 = some (.methodLink RJ2 244 yJ2_indexOfCharUnsafe_4cfef) := rfl
theorem wa_512 : wAt 512 = some (.static yJ2_indexOfCharUnsafe_4cfef) := rfl
theorem wa_513 : wAt 513 = some (.code yJ2_indexOfCharUnsafe_4cfef cJ2_indexOfCharUnsafe_4cfef 5 (some .int)) := rfl
theorem wa_514 : wAt 514 = some (.methodLink RJ2 71 yJ2_getChar_3b067) := rfl
theorem wa_515 : wAt 515 = some (.static yJ2_getChar_3b067) := rfl
theorem wa_516 : wAt 516 = some (.code yJ2_getChar_3b067 cJ2_getChar_3b067 2 (some .char)) := rfl
theorem wa_517 : wAt 517 = some (.fieldLink RJ2 44 "java/lang/StringUTF16" "$assertionsDisabled" "Z") := rfl
theorem wa_518 : wAt 518 = some (.fieldLink RJ2 59 "java/lang/StringUTF16" "HI_BYTE_SHIFT" "I") := rfl
theorem wa_519 : wAt 519 = some (.fieldLink RJ2 63 "java/lang/StringUTF16" "LO_BYTE_SHIFT" "I") := rfl
theorem wa_520 : wAt 520 = some (.methodLink RJ2 232 yJ2_indexOfSupplementary_4cfef) := rfl
theorem wa_521 : wAt 521 = some (.static yJ2_indexOfSupplementary_4cfef) := rfl
theorem wa_522 : wAt 522 = some (.code yJ2_indexOfSupplementary_4cfef cJ2_indexOfSupplementary_4cfef 7 (some .int)) := rfl
theorem wa_523 : wAt 523 = some (.methodLink RJ2 164 yJ11_isValidCodePoint_9a6ad) := rfl
theorem wa_524 : wAt 524 = some (.static yJ11_isValidCodePoint_9a6ad) := rfl
theorem wa_525 : wAt 525 = some (.initialized RJ11) := rfl
theorem wa_526 : wAt 526 = some (.code yJ11_isValidCodePoint_9a6ad cJ11_isValidCodePoint_9a6ad 2 (some .boolean)) := rfl
theorem wa_527 : wAt 527 = some (.methodLink RJ2 157 yJ11_highSurrogate_5068e) := rfl
theorem wa_528 : wAt 528 = some (.static yJ11_highSurrogate_5068e) := rfl
theorem wa_529 : wAt 529 = some (.code yJ11_highSurrogate_5068e cJ11_highSurrogate_5068e 1 (some .char)) := rfl
theorem wa_530 : wAt 530 = some (.constant RJ11 110 (55232)) := rfl
theorem wa_531 : wAt 531 = some (.methodLink RJ2 161 yJ11_lowSurrogate_5068e) := rfl
theorem wa_532 : wAt 532 = some (.static yJ11_lowSurrogate_5068e) := rfl
theorem wa_533 : wAt 533 = some (.code yJ11_lowSurrogate_5068e cJ11_lowSurrogate_5068e 1 (some .char)) := rfl
theorem wa_534 : wAt 534 = some (.constant RJ11 76 (56320)) := rfl
theorem wa_535 : wAt 535 = some (.methodLink RL 26 yX5_fault) := rfl
theorem wa_576 : wAt 576 = some (.instanceMethod yX5_fault) := rfl
theorem wa_577 : wAt 577 = some (.selects RX5 yX5_fault yX5_fault) := rfl
theorem wa_578 : wAt 578 = some (.code yX5_fault cX5_fault 1 (some .int)) := rfl
theorem wa_579 : wAt 579 = some (.methodLink RX5 84 yX5_read) := rfl
theorem wa_580 : wAt 580 = some (.instanceMethod yX5_read) := rfl
theorem wa_581 : wAt 581 = some (.selects RX5 yX5_read yX5_read) := rfl
theorem wa_582 : wAt 582 = some (.code yX5_read cX5_read 3 (some .int)) := rfl
theorem wa_583 : wAt 583 = some (.fieldLink RX5 74 "CubeTowerModel" "isWhole" "Z") := rfl
theorem wa_584 : wAt 584 = some (.fieldLink RX5 78 "CubeTowerModel" "newCubes" "I") := rfl
theorem wa_585 : wAt 585 = some (.methodLink RX5 81 yX5_readCube) := rfl
theorem wa_586 : wAt 586 = some (.instanceMethod yX5_readCube) := rfl
theorem wa_587 : wAt 587 = some (.selects RX5 yX5_readCube yX5_readCube) := rfl
theorem wa_588 : wAt 588 = some (.code yX5_readCube cX5_readCube 3 (some .int)) := rfl
theorem wa_589 : wAt 589 = some (.methodLink RX5 67 yX5_at) := rfl
theorem wa_590 : wAt 590 = some (.instanceMethod yX5_at) := rfl
theorem wa_591 : wAt 591 = some (.selects RX5 yX5_at yX5_at) := rfl
theorem wa_592 : wAt 592 = some (.code yX5_at cX5_at 2 (some .int)) := rfl
theorem wa_593 : wAt 593 = some (.methodLink RX5 71 yX5_kindBy) := rfl
theorem wa_594 : wAt 594 = some (.static yX5_kindBy) := rfl
theorem wa_595 : wAt 595 = some (.code yX5_kindBy cX5_kindBy 1 (some .int)) := rfl
theorem wa_596 : wAt 596 = some (.methodLink RL 27 yX4_tower) := rfl
theorem wa_597 : wAt 597 = some (.instanceMethod yX4_tower) := rfl
theorem wa_598 : wAt 598 = some (.selects RX4 yX4_tower yX4_tower) := rfl
theorem wa_599 : wAt 599 = some (.code yX4_tower cX4_tower 3 (some .int)) := rfl
theorem wa_640 : wAt 640 = some (.fieldLink RX4 49 "CubeTower" "towersRead" "I") := rfl
theorem wa_641 : wAt 641 = some (.fieldLink RX4 52 "CubeTower$Tower" "size" "I") := rfl
theorem wa_642 : wAt 642 = some (.fieldLink RX4 55 "CubeTower" "surveyed" "Z") := rfl
theorem wa_643 : wAt 643 = some (.methodLink RX4 41 yX4_fault) := rfl
theorem wa_644 : wAt 644 = some (.methodLink RX4 45 yX4_readPage) := rfl
theorem wa_645 : wAt 645 = some (.instanceMethod yX4_readPage) := rfl
theorem wa_646 : wAt 646 = some (.selects RX4 yX4_readPage yX4_readPage) := rfl
theorem wa_647 : wAt 647 = some (.code yX4_readPage cX4_readPage 5 none) := rfl
theorem wa_648 : wAt 648 = some (.fieldLink RX4 67 "CubeTower$Tower" "turns" "I") := rfl
theorem wa_649 : wAt 649 = some (.fieldLink RX4 73 "CubeTower$Tower" "cubes" "[LCubeTower$Cube;") := rfl
theorem wa_650 : wAt 650 = some (.fieldLink RX4 77 "CubeTower$Cube" "kind" "I") := rfl
theorem wa_651 : wAt 651 = some (.fieldLink RX4 82 "CubeTower$Cube" "colours" "[I") := rfl
theorem wa_652 : wAt 652 = some (.methodLink RX4 70 yX2_forgetAll) := rfl
theorem wa_653 : wAt 653 = some (.instanceMethod yX2_forgetAll) := rfl
theorem wa_654 : wAt 654 = some (.selects RX2 yX2_forgetAll yX2_forgetAll) := rfl
theorem wa_655 : wAt 655 = some (.code yX2_forgetAll cX2_forgetAll 2 none) := rfl
theorem wa_656 : wAt 656 = some (.fieldLink RX2 25 "CubeTower$Tower" "seen" "I") := rfl
theorem wa_657 : wAt 657 = some (.fieldLink RX2 32 "CubeTower$Cube" "sorts" "I") := rfl
theorem wa_658 : wAt 658 = some (.methodLink RL 30 yX5_tower) := rfl
theorem wa_659 : wAt 659 = some (.instanceMethod yX5_tower) := rfl
theorem wa_660 : wAt 660 = some (.selects RX5 yX5_tower yX5_tower) := rfl
theorem wa_661 : wAt 661 = some (.code yX5_tower cX5_tower 3 (some .int)) := rfl
theorem wa_662 : wAt 662 = some (.fieldLink RX5 88 "CubeTowerModel" "cubes" "I") := rfl
theorem wa_663 : wAt 663 = some (.fieldLink RX5 91 "CubeTowerModel" "turns" "I") := rfl
theorem wa_704 : wAt 704 = some (.fieldLink RX5 94 "CubeTowerModel" "towers" "I") := rfl
theorem wa_705 : wAt 705 = some (.fieldLink RX5 97 "CubeTowerModel" "seen" "I") := rfl
theorem wa_706 : wAt 706 = some (.methodLink RL 31 yX4_cube) := rfl
theorem wa_707 : wAt 707 = some (.instanceMethod yX4_cube) := rfl
theorem wa_708 : wAt 708 = some (.selects RX4 yX4_cube yX4_cube) := rfl
theorem wa_709 : wAt 709 = some (.code yX4_cube cX4_cube 4 (some .int)) := rfl
theorem wa_710 : wAt 710 = some (.fieldLink RX4 89 "CubeTower$Survey" "waysOfKind" "[LCubeTower$Ways;") := rfl
theorem wa_711 : wAt 711 = some (.fieldLink RX4 93 "CubeTower$Ways" "size" "I") := rfl
theorem wa_712 : wAt 712 = some (.fieldLink RX4 96 "CubeTower$Cube" "sorts" "I") := rfl
theorem wa_713 : wAt 713 = some (.methodLink RX4 85 yX2_has) := rfl
theorem wa_714 : wAt 714 = some (.instanceMethod yX2_has) := rfl
theorem wa_715 : wAt 715 = some (.selects RX2 yX2_has yX2_has) := rfl
theorem wa_716 : wAt 716 = some (.code yX2_has cX2_has 2 (some .boolean)) := rfl
theorem wa_717 : wAt 717 = some (.fieldLink RX2 18 "CubeTower$Tower" "size" "I") := rfl
theorem wa_718 : wAt 718 = some (.methodLink RX4 99 yX4_nextQuestion) := rfl
theorem wa_719 : wAt 719 = some (.static yX4_nextQuestion) := rfl
theorem wa_720 : wAt 720 = some (.code yX4_nextQuestion cX4_nextQuestion 7 (some .int)) := rfl
theorem wa_721 : wAt 721 = some (.fieldLink RX4 111 "CubeTower" "KINDS_THAT_COULD" "[I") := rfl
theorem wa_722 : wAt 722 = some (.methodLink RX4 119 Lib.Math.max.name) := rfl
theorem wa_723 : wAt 723 = some (.methodLink RX4 114 yJ6_bitCount_0f7a4) := rfl
theorem wa_724 : wAt 724 = some (.static yJ6_bitCount_0f7a4) := rfl
theorem wa_725 : wAt 725 = some (.initialized RJ6) := rfl
theorem wa_726 : wAt 726 = some (.code yJ6_bitCount_0f7a4 cJ6_bitCount_0f7a4 1 (some .int)) := rfl
theorem wa_727 : wAt 727 = some (.constant RJ6 265 (1431655765)) := rfl
theorem wa_768 : wAt 768 = some (.constant RJ6 266 (858993459)) := rfl
theorem wa_769 : wAt 769 = some (.constant RJ6 267 (252645135)) := rfl
theorem wa_770 : wAt 770 = some (.methodLink RL 35 yX5_cube) := rfl
theorem wa_771 : wAt 771 = some (.instanceMethod yX5_cube) := rfl
theorem wa_772 : wAt 772 = some (.selects RX5 yX5_cube yX5_cube) := rfl
theorem wa_773 : wAt 773 = some (.code yX5_cube cX5_cube 3 (some .int)) := rfl
theorem wa_774 : wAt 774 = some (.methodLink RX5 123 yX5_isCube) := rfl
theorem wa_775 : wAt 775 = some (.instanceMethod yX5_isCube) := rfl
theorem wa_776 : wAt 776 = some (.selects RX5 yX5_isCube yX5_isCube) := rfl
theorem wa_777 : wAt 777 = some (.code yX5_isCube cX5_isCube 2 (some .boolean)) := rfl
theorem wa_778 : wAt 778 = some (.methodLink RX5 127 yX5_cubeNow) := rfl
theorem wa_779 : wAt 779 = some (.instanceMethod yX5_cubeNow) := rfl
theorem wa_780 : wAt 780 = some (.selects RX5 yX5_cubeNow yX5_cubeNow) := rfl
theorem wa_781 : wAt 781 = some (.code yX5_cubeNow cX5_cubeNow 3 (some .int)) := rfl
theorem wa_782 : wAt 782 = some (.methodLink RX5 111 yX5_waysOf) := rfl
theorem wa_783 : wAt 783 = some (.static yX5_waysOf) := rfl
theorem wa_784 : wAt 784 = some (.code yX5_waysOf cX5_waysOf 1 (some .int)) := rfl
theorem wa_785 : wAt 785 = some (.methodLink RX5 114 yX5_sortsOf) := rfl
theorem wa_786 : wAt 786 = some (.instanceMethod yX5_sortsOf) := rfl
theorem wa_787 : wAt 787 = some (.selects RX5 yX5_sortsOf yX5_sortsOf) := rfl
theorem wa_788 : wAt 788 = some (.code yX5_sortsOf cX5_sortsOf 6 (some .int)) := rfl
theorem wa_789 : wAt 789 = some (.methodLink RX5 228 yX5_could) := rfl
theorem wa_790 : wAt 790 = some (.static yX5_could) := rfl
theorem wa_791 : wAt 791 = some (.code yX5_could cX5_could 2 (some .boolean)) := rfl
theorem wa_832 : wAt 832 = some (.methodLink RX5 117 yX5_askOf) := rfl
theorem wa_833 : wAt 833 = some (.instanceMethod yX5_askOf) := rfl
theorem wa_834 : wAt 834 = some (.selects RX5 yX5_askOf yX5_askOf) := rfl
theorem wa_835 : wAt 835 = some (.code yX5_askOf cX5_askOf 9 (some .int)) := rfl
theorem wa_836 : wAt 836 = some (.constant RX5 188 (1048576)) := rfl
theorem wa_837 : wAt 837 = some (.methodLink RX5 144 yX5_isIn) := rfl
theorem wa_838 : wAt 838 = some (.static yX5_isIn) := rfl
theorem wa_839 : wAt 839 = some (.code yX5_isIn cX5_isIn 2 (some .boolean)) := rfl
theorem wa_840 : wAt 840 = some (.methodLink RX5 231 yX5_size) := rfl
theorem wa_841 : wAt 841 = some (.static yX5_size) := rfl
theorem wa_842 : wAt 842 = some (.code yX5_size cX5_size 3 (some .int)) := rfl
theorem wa_843 : wAt 843 = some (.methodLink RX5 120 yX5_turnsOf) := rfl
theorem wa_844 : wAt 844 = some (.static yX5_turnsOf) := rfl
theorem wa_845 : wAt 845 = some (.code yX5_turnsOf cX5_turnsOf 1 (some .int)) := rfl
theorem wa_846 : wAt 846 = some (.methodLink RX5 100 yX5_side) := rfl
theorem wa_847 : wAt 847 = some (.static yX5_side) := rfl
theorem wa_848 : wAt 848 = some (.code yX5_side cX5_side 2 (some .int)) := rfl
theorem wa_849 : wAt 849 = some (.methodLink RL 36 yX4_as) := rfl
theorem wa_850 : wAt 850 = some (.instanceMethod yX4_as) := rfl
theorem wa_851 : wAt 851 = some (.selects RX4 yX4_as yX4_as) := rfl
theorem wa_852 : wAt 852 = some (.code yX4_as cX4_as 3 (some .int)) := rfl
theorem wa_853 : wAt 853 = some (.fieldLink RX4 105 "CubeTower" "KINDS_OF_KIND" "[I") := rfl
theorem wa_854 : wAt 854 = some (.methodLink RL 39 yX5_as) := rfl
theorem wa_855 : wAt 855 = some (.instanceMethod yX5_as) := rfl
theorem wa_896 : wAt 896 = some (.selects RX5 yX5_as yX5_as) := rfl
theorem wa_897 : wAt 897 = some (.code yX5_as cX5_as 4 (some .int)) := rfl
theorem wa_898 : wAt 898 = some (.methodLink RL 40 yX4_wall) := rfl
theorem wa_899 : wAt 899 = some (.instanceMethod yX4_wall) := rfl
theorem wa_900 : wAt 900 = some (.selects RX4 yX4_wall yX4_wall) := rfl
theorem wa_901 : wAt 901 = some (.code yX4_wall cX4_wall 4 (some .int)) := rfl
theorem wa_902 : wAt 902 = some (.methodLink RX4 108 yX2_clashesOn) := rfl
theorem wa_903 : wAt 903 = some (.instanceMethod yX2_clashesOn) := rfl
theorem wa_904 : wAt 904 = some (.selects RX2 yX2_clashesOn yX2_clashesOn) := rfl
theorem wa_905 : wAt 905 = some (.code yX2_clashesOn cX2_clashesOn 6 (some .int)) := rfl
theorem wa_906 : wAt 906 = some (.fieldLink RX2 35 "CubeTower$Cube" "colours" "[I") := rfl
theorem wa_907 : wAt 907 = some (.methodLink RL 43 yX5_wall) := rfl
theorem wa_908 : wAt 908 = some (.instanceMethod yX5_wall) := rfl
theorem wa_909 : wAt 909 = some (.selects RX5 yX5_wall yX5_wall) := rfl
theorem wa_910 : wAt 910 = some (.code yX5_wall cX5_wall 3 (some .int)) := rfl
theorem wa_911 : wAt 911 = some (.methodLink RX5 141 yX5_wallNow) := rfl
theorem wa_912 : wAt 912 = some (.instanceMethod yX5_wallNow) := rfl
theorem wa_913 : wAt 913 = some (.selects RX5 yX5_wallNow yX5_wallNow) := rfl
theorem wa_914 : wAt 914 = some (.code yX5_wallNow cX5_wallNow 4 (some .int)) := rfl
theorem wa_915 : wAt 915 = some (.methodLink RX5 134 yX5_clashesOn) := rfl
theorem wa_916 : wAt 916 = some (.instanceMethod yX5_clashesOn) := rfl
theorem wa_917 : wAt 917 = some (.selects RX5 yX5_clashesOn yX5_clashesOn) := rfl
theorem wa_918 : wAt 918 = some (.code yX5_clashesOn cX5_clashesOn 5 (some .int)) := rfl
theorem wa_919 : wAt 919 = some (.methodLink RX5 130 yX5_same) := rfl
theorem wa_960 : wAt 960 = some (.static yX5_same) := rfl
theorem wa_961 : wAt 961 = some (.code yX5_same cX5_same 3 (some .int)) := rfl
theorem wa_962 : wAt 962 = some (.methodLink RL 44 yX4_turn) := rfl
theorem wa_963 : wAt 963 = some (.instanceMethod yX4_turn) := rfl
theorem wa_964 : wAt 964 = some (.selects RX4 yX4_turn yX4_turn) := rfl
theorem wa_965 : wAt 965 = some (.code yX4_turn cX4_turn 3 (some .int)) := rfl
theorem wa_966 : wAt 966 = some (.methodLink RX4 125 yX4_canTurn) := rfl
theorem wa_967 : wAt 967 = some (.methodLink RX4 128 yX0_turnOver) := rfl
theorem wa_968 : wAt 968 = some (.instanceMethod yX0_turnOver) := rfl
theorem wa_969 : wAt 969 = some (.selects RX0 yX0_turnOver yX0_turnOver) := rfl
theorem wa_970 : wAt 970 = some (.code yX0_turnOver cX0_turnOver 2 none) := rfl
theorem wa_971 : wAt 971 = some (.fieldLink RX0 19 "CubeTower$Cube" "kind" "I") := rfl
theorem wa_972 : wAt 972 = some (.methodLink RX4 131 yX2_clashes) := rfl
theorem wa_973 : wAt 973 = some (.instanceMethod yX2_clashes) := rfl
theorem wa_974 : wAt 974 = some (.selects RX2 yX2_clashes yX2_clashes) := rfl
theorem wa_975 : wAt 975 = some (.code yX2_clashes cX2_clashes 3 (some .int)) := rfl
theorem wa_976 : wAt 976 = some (.methodLink RX2 39 yX2_clashesOn) := rfl
theorem wa_977 : wAt 977 = some (.methodLink RL 47 yX5_turn) := rfl
theorem wa_978 : wAt 978 = some (.instanceMethod yX5_turn) := rfl
theorem wa_979 : wAt 979 = some (.selects RX5 yX5_turn yX5_turn) := rfl
theorem wa_980 : wAt 980 = some (.code yX5_turn cX5_turn 3 (some .int)) := rfl
theorem wa_981 : wAt 981 = some (.methodLink RX5 148 yX5_turned) := rfl
theorem wa_982 : wAt 982 = some (.static yX5_turned) := rfl
theorem wa_983 : wAt 983 = some (.code yX5_turned cX5_turned 4 (some .int)) := rfl
theorem wa_1024 : wAt 1024 = some (.methodLink RX5 108 yX5_quarter) := rfl
theorem wa_1025 : wAt 1025 = some (.static yX5_quarter) := rfl
theorem wa_1026 : wAt 1026 = some (.code yX5_quarter cX5_quarter 2 (some .int)) := rfl
theorem wa_1027 : wAt 1027 = some (.methodLink RX5 104 yX5_ring) := rfl
theorem wa_1028 : wAt 1028 = some (.static yX5_ring) := rfl
theorem wa_1029 : wAt 1029 = some (.code yX5_ring cX5_ring 6 (some .int)) := rfl
theorem wa_1030 : wAt 1030 = some (.methodLink RX5 151 yX5_clashes) := rfl
theorem wa_1031 : wAt 1031 = some (.instanceMethod yX5_clashes) := rfl
theorem wa_1032 : wAt 1032 = some (.selects RX5 yX5_clashes yX5_clashes) := rfl
theorem wa_1033 : wAt 1033 = some (.code yX5_clashes cX5_clashes 1 (some .int)) := rfl
theorem wa_1034 : wAt 1034 = some (.methodLink RX5 138 yX5_clashesOf) := rfl
theorem wa_1035 : wAt 1035 = some (.instanceMethod yX5_clashesOf) := rfl
theorem wa_1036 : wAt 1036 = some (.selects RX5 yX5_clashesOf yX5_clashesOf) := rfl
theorem wa_1037 : wAt 1037 = some (.code yX5_clashesOf cX5_clashesOf 6 (some .int)) := rfl
theorem wa_1038 : wAt 1038 = some (.methodLink RL 48 yX4_paint) := rfl
theorem wa_1039 : wAt 1039 = some (.instanceMethod yX4_paint) := rfl
theorem wa_1040 : wAt 1040 = some (.selects RX4 yX4_paint yX4_paint) := rfl
theorem wa_1041 : wAt 1041 = some (.code yX4_paint cX4_paint 5 (some .int)) := rfl
theorem wa_1042 : wAt 1042 = some (.methodLink RL 52 yX5_paint) := rfl
theorem wa_1043 : wAt 1043 = some (.instanceMethod yX5_paint) := rfl
theorem wa_1044 : wAt 1044 = some (.selects RX5 yX5_paint yX5_paint) := rfl
theorem wa_1045 : wAt 1045 = some (.code yX5_paint cX5_paint 5 (some .int)) := rfl
theorem wa_1046 : wAt 1046 = some (.methodLink RX5 154 yX5_painted) := rfl
theorem wa_1047 : wAt 1047 = some (.static yX5_painted) := rfl
theorem wa_1088 : wAt 1088 = some (.code yX5_painted cX5_painted 3 (some .int)) := rfl
theorem wa_1089 : wAt 1089 = some (.methodLink RL 53 yX4_swap) := rfl
theorem wa_1090 : wAt 1090 = some (.instanceMethod yX4_swap) := rfl
theorem wa_1091 : wAt 1091 = some (.selects RX4 yX4_swap yX4_swap) := rfl
theorem wa_1092 : wAt 1092 = some (.code yX4_swap cX4_swap 4 (some .int)) := rfl
theorem wa_1093 : wAt 1093 = some (.methodLink RL 56 yX5_swap) := rfl
theorem wa_1094 : wAt 1094 = some (.instanceMethod yX5_swap) := rfl
theorem wa_1095 : wAt 1095 = some (.selects RX5 yX5_swap yX5_swap) := rfl
theorem wa_1096 : wAt 1096 = some (.code yX5_swap cX5_swap 5 (some .int)) := rfl
theorem wa_1097 : wAt 1097 = some (.methodLink RL 57 yX4_be) := rfl
theorem wa_1098 : wAt 1098 = some (.instanceMethod yX4_be) := rfl
theorem wa_1099 : wAt 1099 = some (.selects RX4 yX4_be yX4_be) := rfl
theorem wa_1100 : wAt 1100 = some (.code yX4_be cX4_be 4 (some .int)) := rfl
theorem wa_1101 : wAt 1101 = some (.methodLink RL 60 yX5_be) := rfl
theorem wa_1102 : wAt 1102 = some (.instanceMethod yX5_be) := rfl
theorem wa_1103 : wAt 1103 = some (.selects RX5 yX5_be yX5_be) := rfl
theorem wa_1104 : wAt 1104 = some (.code yX5_be cX5_be 4 (some .int)) := rfl
theorem wa_1105 : wAt 1105 = some (.methodLink RL 61 yX4_ways) := rfl
theorem wa_1106 : wAt 1106 = some (.instanceMethod yX4_ways) := rfl
theorem wa_1107 : wAt 1107 = some (.selects RX4 yX4_ways yX4_ways) := rfl
theorem wa_1108 : wAt 1108 = some (.code yX4_ways cX4_ways 2 (some .int)) := rfl
theorem wa_1109 : wAt 1109 = some (.fieldLink RX4 140 "CubeTower$Survey" "solutions" "I") := rfl
theorem wa_1110 : wAt 1110 = some (.fieldLink RX4 143 "CubeTower$Survey" "least" "I") := rfl
theorem wa_1111 : wAt 1111 = some (.methodLink RX4 137 yX4_lookAround) := rfl
theorem wa_1152 : wAt 1152 = some (.instanceMethod yX4_lookAround) := rfl
theorem wa_1153 : wAt 1153 = some (.selects RX4 yX4_lookAround yX4_lookAround) := rfl
theorem wa_1154 : wAt 1154 = some (.code yX4_lookAround cX4_lookAround 1 none) := rfl
theorem wa_1155 : wAt 1155 = some (.methodLink RX4 164 yX1_look) := rfl
theorem wa_1156 : wAt 1156 = some (.instanceMethod yX1_look) := rfl
theorem wa_1157 : wAt 1157 = some (.selects RX1 yX1_look yX1_look) := rfl
theorem wa_1158 : wAt 1158 = some (.code yX1_look cX1_look 5 none) := rfl
theorem wa_1159 : wAt 1159 = some (.fieldLink RX1 36 "CubeTower$Survey" "solutions" "I") := rfl
theorem wa_1160 : wAt 1160 = some (.fieldLink RX1 40 "CubeTower$Survey" "fewestTurns" "I") := rfl
theorem wa_1161 : wAt 1161 = some (.fieldLink RX1 43 "CubeTower$Survey" "firstTurns" "I") := rfl
theorem wa_1162 : wAt 1162 = some (.constant RX1 48 (2147483647)) := rfl
theorem wa_1163 : wAt 1163 = some (.fieldLink RX1 49 "CubeTower$Survey" "least" "I") := rfl
theorem wa_1164 : wAt 1164 = some (.fieldLink RX1 52 "CubeTower$Ways" "size" "I") := rfl
theorem wa_1165 : wAt 1165 = some (.methodLink RX1 32 yX1_layOut) := rfl
theorem wa_1166 : wAt 1166 = some (.instanceMethod yX1_layOut) := rfl
theorem wa_1167 : wAt 1167 = some (.selects RX1 yX1_layOut yX1_layOut) := rfl
theorem wa_1168 : wAt 1168 = some (.code yX1_layOut cX1_layOut 7 none) := rfl
theorem wa_1169 : wAt 1169 = some (.fieldLink RX1 69 "CubeTower$Tower" "cubes" "[LCubeTower$Cube;") := rfl
theorem wa_1170 : wAt 1170 = some (.fieldLink RX1 73 "CubeTower$Cube" "kind" "I") := rfl
theorem wa_1171 : wAt 1171 = some (.methodLink RX1 63 yX2_has) := rfl
theorem wa_1172 : wAt 1172 = some (.methodLink RX1 78 yX1_wallsOf) := rfl
theorem wa_1173 : wAt 1173 = some (.static yX1_wallsOf) := rfl
theorem wa_1174 : wAt 1174 = some (.code yX1_wallsOf cX1_wallsOf 6 (some .int)) := rfl
theorem wa_1175 : wAt 1175 = some (.fieldLink RX1 82 "CubeTower$Ways" "sideAt" "[I") := rfl
theorem wa_1216 : wAt 1216 = some (.fieldLink RX1 85 "CubeTower$Cube" "colours" "[I") := rfl
theorem wa_1217 : wAt 1217 = some (.methodLink RX1 55 yJ6_bitCount_0f7a4) := rfl
theorem wa_1218 : wAt 1218 = some (.methodLink RX1 59 yX1_tryThird) := rfl
theorem wa_1219 : wAt 1219 = some (.instanceMethod yX1_tryThird) := rfl
theorem wa_1220 : wAt 1220 = some (.selects RX1 yX1_tryThird yX1_tryThird) := rfl
theorem wa_1221 : wAt 1221 = some (.code yX1_tryThird cX1_tryThird 9 none) := rfl
theorem wa_1222 : wAt 1222 = some (.methodLink RX1 88 Lib.Math.min.name) := rfl
theorem wa_1223 : wAt 1223 = some (.methodLink RX1 94 yX1_addSolution) := rfl
theorem wa_1224 : wAt 1224 = some (.instanceMethod yX1_addSolution) := rfl
theorem wa_1225 : wAt 1225 = some (.selects RX1 yX1_addSolution yX1_addSolution) := rfl
theorem wa_1226 : wAt 1226 = some (.code yX1_addSolution cX1_addSolution 5 none) := rfl
theorem wa_1227 : wAt 1227 = some (.fieldLink RX1 97 "CubeTower$Ways" "turnsTo" "[I") := rfl
theorem wa_1228 : wAt 1228 = some (.fieldLink RX1 100 "CubeTower$Ways" "firstTurns" "[I") := rfl
theorem wa_1229 : wAt 1229 = some (.methodLink RL 64 yX5_ways) := rfl
theorem wa_1230 : wAt 1230 = some (.instanceMethod yX5_ways) := rfl
theorem wa_1231 : wAt 1231 = some (.selects RX5 yX5_ways yX5_ways) := rfl
theorem wa_1232 : wAt 1232 = some (.code yX5_ways cX5_ways 2 (some .int)) := rfl
theorem wa_1233 : wAt 1233 = some (.methodLink RX5 198 yX5_waysNow) := rfl
theorem wa_1234 : wAt 1234 = some (.instanceMethod yX5_waysNow) := rfl
theorem wa_1235 : wAt 1235 = some (.selects RX5 yX5_waysNow yX5_waysNow) := rfl
theorem wa_1236 : wAt 1236 = some (.code yX5_waysNow cX5_waysNow 2 (some .int)) := rfl
theorem wa_1237 : wAt 1237 = some (.methodLink RX5 189 yX5_layAll) := rfl
theorem wa_1238 : wAt 1238 = some (.instanceMethod yX5_layAll) := rfl
theorem wa_1239 : wAt 1239 = some (.selects RX5 yX5_layAll yX5_layAll) := rfl
theorem wa_1280 : wAt 1280 = some (.code yX5_layAll cX5_layAll 2 none) := rfl
theorem wa_1281 : wAt 1281 = some (.constant RX5 164 (181896)) := rfl
theorem wa_1282 : wAt 1282 = some (.methodLink RX5 165 yX5_layWays) := rfl
theorem wa_1283 : wAt 1283 = some (.instanceMethod yX5_layWays) := rfl
theorem wa_1284 : wAt 1284 = some (.selects RX5 yX5_layWays yX5_layWays) := rfl
theorem wa_1285 : wAt 1285 = some (.code yX5_layWays cX5_layWays 5 none) := rfl
theorem wa_1286 : wAt 1286 = some (.methodLink RX5 157 yX5_take) := rfl
theorem wa_1287 : wAt 1287 = some (.instanceMethod yX5_take) := rfl
theorem wa_1288 : wAt 1288 = some (.selects RX5 yX5_take yX5_take) := rfl
theorem wa_1289 : wAt 1289 = some (.code yX5_take cX5_take 5 none) := rfl
theorem wa_1290 : wAt 1290 = some (.methodLink RX5 169 yX5_layColours) := rfl
theorem wa_1291 : wAt 1291 = some (.instanceMethod yX5_layColours) := rfl
theorem wa_1292 : wAt 1292 = some (.selects RX5 yX5_layColours yX5_layColours) := rfl
theorem wa_1293 : wAt 1293 = some (.code yX5_layColours cX5_layColours 3 none) := rfl
theorem wa_1294 : wAt 1294 = some (.methodLink RX5 161 yX5_laid) := rfl
theorem wa_1295 : wAt 1295 = some (.static yX5_laid) := rfl
theorem wa_1296 : wAt 1296 = some (.code yX5_laid cX5_laid 4 (some .int)) := rfl
theorem wa_1297 : wAt 1297 = some (.methodLink RX5 192 yX5_solutions) := rfl
theorem wa_1298 : wAt 1298 = some (.instanceMethod yX5_solutions) := rfl
theorem wa_1299 : wAt 1299 = some (.selects RX5 yX5_solutions yX5_solutions) := rfl
theorem wa_1300 : wAt 1300 = some (.code yX5_solutions cX5_solutions 3 (some .int)) := rfl
theorem wa_1301 : wAt 1301 = some (.methodLink RX5 182 yX5_all) := rfl
theorem wa_1302 : wAt 1302 = some (.instanceMethod yX5_all) := rfl
theorem wa_1303 : wAt 1303 = some (.selects RX5 yX5_all yX5_all) := rfl
theorem wa_1344 : wAt 1344 = some (.code yX5_all cX5_all 3 (some .int)) := rfl
theorem wa_1345 : wAt 1345 = some (.methodLink RX5 185 yX5_clashesBy) := rfl
theorem wa_1346 : wAt 1346 = some (.instanceMethod yX5_clashesBy) := rfl
theorem wa_1347 : wAt 1347 = some (.selects RX5 yX5_clashesBy yX5_clashesBy) := rfl
theorem wa_1348 : wAt 1348 = some (.code yX5_clashesBy cX5_clashesBy 2 (some .int)) := rfl
theorem wa_1349 : wAt 1349 = some (.methodLink RX5 173 yX5_first) := rfl
theorem wa_1350 : wAt 1350 = some (.instanceMethod yX5_first) := rfl
theorem wa_1351 : wAt 1351 = some (.selects RX5 yX5_first yX5_first) := rfl
theorem wa_1352 : wAt 1352 = some (.code yX5_first cX5_first 2 (some .int)) := rfl
theorem wa_1353 : wAt 1353 = some (.methodLink RX5 176 yX5_second) := rfl
theorem wa_1354 : wAt 1354 = some (.instanceMethod yX5_second) := rfl
theorem wa_1355 : wAt 1355 = some (.selects RX5 yX5_second yX5_second) := rfl
theorem wa_1356 : wAt 1356 = some (.code yX5_second cX5_second 2 (some .int)) := rfl
theorem wa_1357 : wAt 1357 = some (.methodLink RX5 179 yX5_third) := rfl
theorem wa_1358 : wAt 1358 = some (.instanceMethod yX5_third) := rfl
theorem wa_1359 : wAt 1359 = some (.selects RX5 yX5_third yX5_third) := rfl
theorem wa_1360 : wAt 1360 = some (.code yX5_third cX5_third 2 (some .int)) := rfl
theorem wa_1361 : wAt 1361 = some (.methodLink RX5 195 yX5_leastClashes) := rfl
theorem wa_1362 : wAt 1362 = some (.instanceMethod yX5_leastClashes) := rfl
theorem wa_1363 : wAt 1363 = some (.selects RX5 yX5_leastClashes yX5_leastClashes) := rfl
theorem wa_1364 : wAt 1364 = some (.code yX5_leastClashes cX5_leastClashes 3 (some .int)) := rfl
theorem wa_1365 : wAt 1365 = some (.methodLink RL 65 yX4_turning) := rfl
theorem wa_1366 : wAt 1366 = some (.instanceMethod yX4_turning) := rfl
theorem wa_1367 : wAt 1367 = some (.selects RX4 yX4_turning yX4_turning) := rfl
theorem wa_1408 : wAt 1408 = some (.code yX4_turning cX4_turning 2 (some .int)) := rfl
theorem wa_1409 : wAt 1409 = some (.fieldLink RX4 146 "CubeTower$Survey" "fewestTurns" "I") := rfl
theorem wa_1410 : wAt 1410 = some (.methodLink RX4 149 yX1_firstTurn) := rfl
theorem wa_1411 : wAt 1411 = some (.instanceMethod yX1_firstTurn) := rfl
theorem wa_1412 : wAt 1412 = some (.selects RX1 yX1_firstTurn yX1_firstTurn) := rfl
theorem wa_1413 : wAt 1413 = some (.code yX1_firstTurn cX1_firstTurn 2 (some .int)) := rfl
theorem wa_1414 : wAt 1414 = some (.methodLink RX1 102 yJ6_numberOfTrailingZeros_0f7a4) := rfl
theorem wa_1415 : wAt 1415 = some (.static yJ6_numberOfTrailingZeros_0f7a4) := rfl
theorem wa_1416 : wAt 1416 = some (.code yJ6_numberOfTrailingZeros_0f7a4 cJ6_numberOfTrailingZeros_0f7a4 2 (some .int)) := rfl
theorem wa_1417 : wAt 1417 = some (.constant RJ6 264 (65536)) := rfl
theorem wa_1418 : wAt 1418 = some (.methodLink RL 68 yX5_turning) := rfl
theorem wa_1419 : wAt 1419 = some (.instanceMethod yX5_turning) := rfl
theorem wa_1420 : wAt 1420 = some (.selects RX5 yX5_turning yX5_turning) := rfl
theorem wa_1421 : wAt 1421 = some (.code yX5_turning cX5_turning 2 (some .int)) := rfl
theorem wa_1422 : wAt 1422 = some (.methodLink RX5 210 yX5_turningNow) := rfl
theorem wa_1423 : wAt 1423 = some (.instanceMethod yX5_turningNow) := rfl
theorem wa_1424 : wAt 1424 = some (.selects RX5 yX5_turningNow yX5_turningNow) := rfl
theorem wa_1425 : wAt 1425 = some (.code yX5_turningNow cX5_turningNow 3 (some .int)) := rfl
theorem wa_1426 : wAt 1426 = some (.methodLink RX5 204 yX5_fewestTurns) := rfl
theorem wa_1427 : wAt 1427 = some (.instanceMethod yX5_fewestTurns) := rfl
theorem wa_1428 : wAt 1428 = some (.selects RX5 yX5_fewestTurns yX5_fewestTurns) := rfl
theorem wa_1429 : wAt 1429 = some (.code yX5_fewestTurns cX5_fewestTurns 3 (some .int)) := rfl
theorem wa_1430 : wAt 1430 = some (.methodLink RX5 201 yX5_farBy) := rfl
theorem wa_1431 : wAt 1431 = some (.instanceMethod yX5_farBy) := rfl
theorem wa_1472 : wAt 1472 = some (.selects RX5 yX5_farBy yX5_farBy) := rfl
theorem wa_1473 : wAt 1473 = some (.code yX5_farBy cX5_farBy 2 (some .int)) := rfl
theorem wa_1474 : wAt 1474 = some (.methodLink RX5 207 yX5_firstTurn) := rfl
theorem wa_1475 : wAt 1475 = some (.instanceMethod yX5_firstTurn) := rfl
theorem wa_1476 : wAt 1476 = some (.selects RX5 yX5_firstTurn yX5_firstTurn) := rfl
theorem wa_1477 : wAt 1477 = some (.code yX5_firstTurn cX5_firstTurn 5 (some .int)) := rfl
theorem wa_1478 : wAt 1478 = some (.methodLink RL 69 yX4_repaint) := rfl
theorem wa_1479 : wAt 1479 = some (.instanceMethod yX4_repaint) := rfl
theorem wa_1480 : wAt 1480 = some (.selects RX4 yX4_repaint yX4_repaint) := rfl
theorem wa_1481 : wAt 1481 = some (.code yX4_repaint cX4_repaint 1 (some .int)) := rfl
theorem wa_1482 : wAt 1482 = some (.fieldLink RX4 152 "CubeTower" "repaints" "I") := rfl
theorem wa_1483 : wAt 1483 = some (.methodLink RX4 155 yX1_sideToPaint) := rfl
theorem wa_1484 : wAt 1484 = some (.instanceMethod yX1_sideToPaint) := rfl
theorem wa_1485 : wAt 1485 = some (.selects RX1 yX1_sideToPaint yX1_sideToPaint) := rfl
theorem wa_1486 : wAt 1486 = some (.code yX1_sideToPaint cX1_sideToPaint 5 (some .int)) := rfl
theorem wa_1487 : wAt 1487 = some (.methodLink RX1 105 yX1_pairOthers) := rfl
theorem wa_1488 : wAt 1488 = some (.instanceMethod yX1_pairOthers) := rfl
theorem wa_1489 : wAt 1489 = some (.selects RX1 yX1_pairOthers yX1_pairOthers) := rfl
theorem wa_1490 : wAt 1490 = some (.code yX1_pairOthers cX1_pairOthers 8 none) := rfl
theorem wa_1491 : wAt 1491 = some (.fieldLink RX1 111 "CubeTower$Survey" "pairCount" "I") := rfl
theorem wa_1492 : wAt 1492 = some (.methodLink RX1 108 yX1_helpfulColours) := rfl
theorem wa_1493 : wAt 1493 = some (.instanceMethod yX1_helpfulColours) := rfl
theorem wa_1494 : wAt 1494 = some (.selects RX1 yX1_helpfulColours yX1_helpfulColours) := rfl
theorem wa_1495 : wAt 1495 = some (.code yX1_helpfulColours cX1_helpfulColours 6 (some .int)) := rfl
theorem wa_1536 : wAt 1536 = some (.methodLink RX1 114 yX3_placeOf) := rfl
theorem wa_1537 : wAt 1537 = some (.instanceMethod yX3_placeOf) := rfl
theorem wa_1538 : wAt 1538 = some (.selects RX3 yX3_placeOf yX3_placeOf) := rfl
theorem wa_1539 : wAt 1539 = some (.code yX3_placeOf cX3_placeOf 4 (some .int)) := rfl
theorem wa_1540 : wAt 1540 = some (.methodLink RX1 117 yX1_coloursFree) := rfl
theorem wa_1541 : wAt 1541 = some (.instanceMethod yX1_coloursFree) := rfl
theorem wa_1542 : wAt 1542 = some (.selects RX1 yX1_coloursFree yX1_coloursFree) := rfl
theorem wa_1543 : wAt 1543 = some (.code yX1_coloursFree cX1_coloursFree 6 (some .int)) := rfl
theorem wa_1544 : wAt 1544 = some (.methodLink RL 72 yX5_repaint) := rfl
theorem wa_1545 : wAt 1545 = some (.instanceMethod yX5_repaint) := rfl
theorem wa_1546 : wAt 1546 = some (.selects RX5 yX5_repaint yX5_repaint) := rfl
theorem wa_1547 : wAt 1547 = some (.code yX5_repaint cX5_repaint 1 (some .int)) := rfl
theorem wa_1548 : wAt 1548 = some (.fieldLink RX5 216 "CubeTowerModel" "asks" "I") := rfl
theorem wa_1549 : wAt 1549 = some (.methodLink RX5 219 yX5_repaintNow) := rfl
theorem wa_1550 : wAt 1550 = some (.instanceMethod yX5_repaintNow) := rfl
theorem wa_1551 : wAt 1551 = some (.selects RX5 yX5_repaintNow yX5_repaintNow) := rfl
theorem wa_1552 : wAt 1552 = some (.code yX5_repaintNow cX5_repaintNow 5 (some .int)) := rfl
theorem wa_1553 : wAt 1553 = some (.methodLink RX5 213 yX5_isBy) := rfl
theorem wa_1554 : wAt 1554 = some (.instanceMethod yX5_isBy) := rfl
theorem wa_1555 : wAt 1555 = some (.selects RX5 yX5_isBy yX5_isBy) := rfl
theorem wa_1556 : wAt 1556 = some (.code yX5_isBy cX5_isBy 6 (some .boolean)) := rfl
theorem wa_1557 : wAt 1557 = some (.methodLink RL 73 yX4_odds) := rfl
theorem wa_1558 : wAt 1558 = some (.instanceMethod yX4_odds) := rfl
theorem wa_1559 : wAt 1559 = some (.selects RX4 yX4_odds yX4_odds) := rfl
theorem wa_1600 : wAt 1600 = some (.code yX4_odds cX4_odds 5 (some .int)) := rfl
theorem wa_1601 : wAt 1601 = some (.methodLink RX4 158 yX1_allWays) := rfl
theorem wa_1602 : wAt 1602 = some (.instanceMethod yX1_allWays) := rfl
theorem wa_1603 : wAt 1603 = some (.selects RX1 yX1_allWays yX1_allWays) := rfl
theorem wa_1604 : wAt 1604 = some (.code yX1_allWays cX1_allWays 1 (some .int)) := rfl
theorem wa_1605 : wAt 1605 = some (.methodLink RX4 161 yX4_commonDivisor) := rfl
theorem wa_1606 : wAt 1606 = some (.static yX4_commonDivisor) := rfl
theorem wa_1607 : wAt 1607 = some (.code yX4_commonDivisor cX4_commonDivisor 6 (some .int)) := rfl
theorem wa_1608 : wAt 1608 = some (.methodLink RL 76 yX5_odds) := rfl
theorem wa_1609 : wAt 1609 = some (.instanceMethod yX5_odds) := rfl
theorem wa_1610 : wAt 1610 = some (.selects RX5 yX5_odds yX5_odds) := rfl
theorem wa_1611 : wAt 1611 = some (.code yX5_odds cX5_odds 2 (some .int)) := rfl
theorem wa_1612 : wAt 1612 = some (.methodLink RX5 225 yX5_oddsNow) := rfl
theorem wa_1613 : wAt 1613 = some (.instanceMethod yX5_oddsNow) := rfl
theorem wa_1614 : wAt 1614 = some (.selects RX5 yX5_oddsNow yX5_oddsNow) := rfl
theorem wa_1615 : wAt 1615 = some (.code yX5_oddsNow cX5_oddsNow 4 (some .int)) := rfl
theorem wa_1616 : wAt 1616 = some (.methodLink RX5 222 yX5_divisor) := rfl
theorem wa_1617 : wAt 1617 = some (.static yX5_divisor) := rfl
theorem wa_1618 : wAt 1618 = some (.code yX5_divisor cX5_divisor 5 (some .int)) := rfl
theorem wa_1619 : wAt 1619 = some (.methodLink RL 77 yX4_see) := rfl
theorem wa_1620 : wAt 1620 = some (.instanceMethod yX4_see) := rfl
theorem wa_1621 : wAt 1621 = some (.selects RX4 yX4_see yX4_see) := rfl
theorem wa_1622 : wAt 1622 = some (.code yX4_see cX4_see 5 (some .int)) := rfl
theorem wa_1623 : wAt 1623 = some (.fieldLink RX4 168 "CubeTower$Tower" "seen" "I") := rfl
theorem wa_1664 : wAt 1664 = some (.methodLink RL 81 yX5_see) := rfl
theorem wa_1665 : wAt 1665 = some (.instanceMethod yX5_see) := rfl
theorem wa_1666 : wAt 1666 = some (.selects RX5 yX5_see yX5_see) := rfl
theorem wa_1667 : wAt 1667 = some (.code yX5_see cX5_see 4 (some .int)) := rfl
theorem wa_1668 : wAt 1668 = some (.methodLink RL 82 yX4_forget) := rfl
theorem wa_1669 : wAt 1669 = some (.instanceMethod yX4_forget) := rfl
theorem wa_1670 : wAt 1670 = some (.selects RX4 yX4_forget yX4_forget) := rfl
theorem wa_1671 : wAt 1671 = some (.code yX4_forget cX4_forget 2 (some .int)) := rfl
theorem wa_1672 : wAt 1672 = some (.methodLink RL 85 yX5_forget) := rfl
theorem wa_1673 : wAt 1673 = some (.instanceMethod yX5_forget) := rfl
theorem wa_1674 : wAt 1674 = some (.selects RX5 yX5_forget yX5_forget) := rfl
theorem wa_1675 : wAt 1675 = some (.code yX5_forget cX5_forget 2 (some .int)) := rfl
theorem wa_1676 : wAt 1676 = some (.methodLink RL 86 yX4_runs) := rfl
theorem wa_1677 : wAt 1677 = some (.instanceMethod yX4_runs) := rfl
theorem wa_1678 : wAt 1678 = some (.selects RX4 yX4_runs yX4_runs) := rfl
theorem wa_1679 : wAt 1679 = some (.code yX4_runs cX4_runs 9 (some .int)) := rfl
theorem wa_1680 : wAt 1680 = some (.methodLink RX4 171 yX2_copyFrom) := rfl
theorem wa_1681 : wAt 1681 = some (.instanceMethod yX2_copyFrom) := rfl
theorem wa_1682 : wAt 1682 = some (.selects RX2 yX2_copyFrom yX2_copyFrom) := rfl
theorem wa_1683 : wAt 1683 = some (.code yX2_copyFrom cX2_copyFrom 3 none) := rfl
theorem wa_1684 : wAt 1684 = some (.fieldLink RX2 22 "CubeTower$Tower" "turns" "I") := rfl
theorem wa_1685 : wAt 1685 = some (.methodLink RX2 28 yX0_copyFrom) := rfl
theorem wa_1686 : wAt 1686 = some (.instanceMethod yX0_copyFrom) := rfl
theorem wa_1687 : wAt 1687 = some (.selects RX0 yX0_copyFrom yX0_copyFrom) := rfl
theorem wa_1728 : wAt 1728 = some (.code yX0_copyFrom cX0_copyFrom 2 none) := rfl
theorem wa_1729 : wAt 1729 = some (.methodLink RX0 26 arraycopyName) := rfl
theorem wa_1730 : wAt 1730 = some (.methodLink RX4 174 yX4_nextSeed) := rfl
theorem wa_1731 : wAt 1731 = some (.static yX4_nextSeed) := rfl
theorem wa_1732 : wAt 1732 = some (.code yX4_nextSeed cX4_nextSeed 1 (some .int)) := rfl
theorem wa_1733 : wAt 1733 = some (.constantLong RX4 180 (1103515245)) := rfl
theorem wa_1734 : wAt 1734 = some (.constantLong RX4 182 (12345)) := rfl
theorem wa_1735 : wAt 1735 = some (.constantLong RX4 184 (2147483647)) := rfl
theorem wa_1736 : wAt 1736 = some (.methodLink RX4 177 yX4_draw) := rfl
theorem wa_1737 : wAt 1737 = some (.static yX4_draw) := rfl
theorem wa_1738 : wAt 1738 = some (.code yX4_draw cX4_draw 2 (some .int)) := rfl
theorem wa_1739 : wAt 1739 = some (.constant RX4 186 (65536)) := rfl
theorem wa_1740 : wAt 1740 = some (.methodLink RL 89 yX5_runs) := rfl
theorem wa_1741 : wAt 1741 = some (.instanceMethod yX5_runs) := rfl
theorem wa_1742 : wAt 1742 = some (.selects RX5 yX5_runs yX5_runs) := rfl
theorem wa_1743 : wAt 1743 = some (.code yX5_runs cX5_runs 4 (some .int)) := rfl
theorem wa_1744 : wAt 1744 = some (.methodLink RX5 249 yX5_runsNow) := rfl
theorem wa_1745 : wAt 1745 = some (.instanceMethod yX5_runsNow) := rfl
theorem wa_1746 : wAt 1746 = some (.selects RX5 yX5_runsNow yX5_runsNow) := rfl
theorem wa_1747 : wAt 1747 = some (.code yX5_runsNow cX5_runsNow 8 (some .int)) := rfl
theorem wa_1748 : wAt 1748 = some (.fieldLink RX5 236 "CubeTowerModel" "seedNow" "J") := rfl
theorem wa_1749 : wAt 1749 = some (.methodLink RX5 246 yX5_draw) := rfl
theorem wa_1750 : wAt 1750 = some (.instanceMethod yX5_draw) := rfl
theorem wa_1751 : wAt 1751 = some (.selects RX5 yX5_draw yX5_draw) := rfl
theorem wa_1792 : wAt 1792 = some (.code yX5_draw cX5_draw 2 (some .int)) := rfl
theorem wa_1793 : wAt 1793 = some (.constantLong RX5 234 (1103515245)) := rfl
theorem wa_1794 : wAt 1794 = some (.constantLong RX5 240 (12345)) := rfl
theorem wa_1795 : wAt 1795 = some (.constantLong RX5 242 (2147483647)) := rfl
theorem wa_1796 : wAt 1796 = some (.constantLong RX5 244 (65536)) := rfl
theorem wa_1797 : wAt 1797 = some (.methodLink RL 90 yX4_image) := rfl
theorem wa_1798 : wAt 1798 = some (.instanceMethod yX4_image) := rfl
theorem wa_1799 : wAt 1799 = some (.selects RX4 yX4_image yX4_image) := rfl
theorem wa_1800 : wAt 1800 = some (.code yX4_image cX4_image 1 (some .int)) := rfl
theorem wa_1801 : wAt 1801 = some (.methodLink RL 93 yX5_image) := rfl
theorem wa_1802 : wAt 1802 = some (.instanceMethod yX5_image) := rfl
theorem wa_1803 : wAt 1803 = some (.selects RX5 yX5_image yX5_image) := rfl
theorem wa_1804 : wAt 1804 = some (.code yX5_image cX5_image 2 (some .int)) := rfl
theorem wa_1805 : wAt 1805 = some (.fieldLink RX5 252 "CubeTowerModel" "isKept" "Z") := rfl
theorem wa_1806 : wAt 1806 = some (.fieldLink RX5 255 "CubeTowerModel" "keptTower" "I") := rfl
theorem wa_1807 : wAt 1807 = some (.fieldLink RX5 258 "CubeTowerModel" "keptTurns" "I") := rfl
theorem wa_1808 : wAt 1808 = some (.fieldLink RX5 261 "CubeTowerModel" "keptSeen" "I") := rfl
theorem wa_1809 : wAt 1809 = some (.methodLink RL 94 yX4_restore) := rfl
theorem wa_1810 : wAt 1810 = some (.instanceMethod yX4_restore) := rfl
theorem wa_1811 : wAt 1811 = some (.selects RX4 yX4_restore yX4_restore) := rfl
theorem wa_1812 : wAt 1812 = some (.code yX4_restore cX4_restore 1 (some .int)) := rfl
theorem wa_1813 : wAt 1813 = some (.methodLink RL 97 yX5_restore) := rfl
theorem wa_1814 : wAt 1814 = some (.instanceMethod yX5_restore) := rfl
theorem wa_1815 : wAt 1815 = some (.selects RX5 yX5_restore yX5_restore) := rfl
theorem wa_1856 : wAt 1856 = some (.code yX5_restore cX5_restore 2 (some .int)) := rfl
theorem wa_1857 : wAt 1857 = some (.methodLink RL 98 yX4_count) := rfl
theorem wa_1858 : wAt 1858 = some (.instanceMethod yX4_count) := rfl
theorem wa_1859 : wAt 1859 = some (.selects RX4 yX4_count yX4_count) := rfl
theorem wa_1860 : wAt 1860 = some (.code yX4_count cX4_count 2 (some .int)) := rfl
theorem wa_1861 : wAt 1861 = some (.methodLink RX4 187 yX2_goodWalls) := rfl
theorem wa_1862 : wAt 1862 = some (.instanceMethod yX2_goodWalls) := rfl
theorem wa_1863 : wAt 1863 = some (.selects RX2 yX2_goodWalls yX2_goodWalls) := rfl
theorem wa_1864 : wAt 1864 = some (.code yX2_goodWalls cX2_goodWalls 3 (some .int)) := rfl
theorem wa_1865 : wAt 1865 = some (.methodLink RX4 190 yX2_coloursUsed) := rfl
theorem wa_1866 : wAt 1866 = some (.instanceMethod yX2_coloursUsed) := rfl
theorem wa_1867 : wAt 1867 = some (.selects RX2 yX2_coloursUsed yX2_coloursUsed) := rfl
theorem wa_1868 : wAt 1868 = some (.code yX2_coloursUsed cX2_coloursUsed 4 (some .int)) := rfl
theorem wa_1869 : wAt 1869 = some (.methodLink RX2 43 yJ6_bitCount_0f7a4) := rfl
theorem wa_1870 : wAt 1870 = some (.methodLink RL 101 yX5_count) := rfl
theorem wa_1871 : wAt 1871 = some (.instanceMethod yX5_count) := rfl
theorem wa_1872 : wAt 1872 = some (.selects RX5 yX5_count yX5_count) := rfl
theorem wa_1873 : wAt 1873 = some (.code yX5_count cX5_count 2 (some .int)) := rfl
theorem wa_1874 : wAt 1874 = some (.methodLink RX5 270 yX5_howMany) := rfl
theorem wa_1875 : wAt 1875 = some (.instanceMethod yX5_howMany) := rfl
theorem wa_1876 : wAt 1876 = some (.selects RX5 yX5_howMany yX5_howMany) := rfl
theorem wa_1877 : wAt 1877 = some (.code yX5_howMany cX5_howMany 2 (some .int)) := rfl
theorem wa_1878 : wAt 1878 = some (.methodLink RX5 264 yX5_goodWalls) := rfl
theorem wa_1879 : wAt 1879 = some (.instanceMethod yX5_goodWalls) := rfl
theorem wa_1920 : wAt 1920 = some (.selects RX5 yX5_goodWalls yX5_goodWalls) := rfl
theorem wa_1921 : wAt 1921 = some (.code yX5_goodWalls cX5_goodWalls 3 (some .int)) := rfl
theorem wa_1922 : wAt 1922 = some (.methodLink RX5 267 yX5_colours) := rfl
theorem wa_1923 : wAt 1923 = some (.instanceMethod yX5_colours) := rfl
theorem wa_1924 : wAt 1924 = some (.selects RX5 yX5_colours yX5_colours) := rfl
theorem wa_1925 : wAt 1925 = some (.code yX5_colours cX5_colours 4 (some .int)) := rfl
theorem wa_1926 : wAt 1926 = some (.methodLink RL 102 yX4_digest) := rfl
theorem wa_1927 : wAt 1927 = some (.instanceMethod yX4_digest) := rfl
theorem wa_1928 : wAt 1928 = some (.selects RX4 yX4_digest yX4_digest) := rfl
theorem wa_1929 : wAt 1929 = some (.code yX4_digest cX4_digest 4 (some .long)) := rfl
theorem wa_1930 : wAt 1930 = some (.constantLong RX4 193 (1319)) := rfl
theorem wa_1931 : wAt 1931 = some (.constantLong RX4 203 (31)) := rfl
theorem wa_1932 : wAt 1932 = some (.methodLink RX4 195 yX4_addCube) := rfl
theorem wa_1933 : wAt 1933 = some (.instanceMethod yX4_addCube) := rfl
theorem wa_1934 : wAt 1934 = some (.selects RX4 yX4_addCube yX4_addCube) := rfl
theorem wa_1935 : wAt 1935 = some (.code yX4_addCube cX4_addCube 7 (some .long)) := rfl
theorem wa_1936 : wAt 1936 = some (.methodLink RX4 208 yX4_cube) := rfl
theorem wa_1937 : wAt 1937 = some (.methodLink RX4 199 yX4_addWholeTower) := rfl
theorem wa_1938 : wAt 1938 = some (.instanceMethod yX4_addWholeTower) := rfl
theorem wa_1939 : wAt 1939 = some (.selects RX4 yX4_addWholeTower yX4_addWholeTower) := rfl
theorem wa_1940 : wAt 1940 = some (.code yX4_addWholeTower cX4_addWholeTower 6 (some .long)) := rfl
theorem wa_1941 : wAt 1941 = some (.methodLink RX4 211 yX4_wall) := rfl
theorem wa_1942 : wAt 1942 = some (.methodLink RX4 214 yX4_ways) := rfl
theorem wa_1943 : wAt 1943 = some (.methodLink RX4 217 yX4_turning) := rfl
theorem wa_1984 : wAt 1984 = some (.methodLink RX4 220 yX4_odds) := rfl
theorem wa_1985 : wAt 1985 = some (.methodLink RX4 205 yX4_count) := rfl
theorem wa_1986 : wAt 1986 = some (.methodLink RL 106 yX5_digest) := rfl
theorem wa_1987 : wAt 1987 = some (.instanceMethod yX5_digest) := rfl
theorem wa_1988 : wAt 1988 = some (.selects RX5 yX5_digest yX5_digest) := rfl
theorem wa_1989 : wAt 1989 = some (.code yX5_digest cX5_digest 3 (some .long)) := rfl
theorem wa_1990 : wAt 1990 = some (.constantLong RX5 282 (1319)) := rfl
theorem wa_1991 : wAt 1991 = some (.fieldLink RX5 275 "CubeTowerModel" "h" "J") := rfl
theorem wa_1992 : wAt 1992 = some (.methodLink RX5 278 yX5_mix) := rfl
theorem wa_1993 : wAt 1993 = some (.instanceMethod yX5_mix) := rfl
theorem wa_1994 : wAt 1994 = some (.selects RX5 yX5_mix yX5_mix) := rfl
theorem wa_1995 : wAt 1995 = some (.code yX5_mix cX5_mix 3 none) := rfl
theorem wa_1996 : wAt 1996 = some (.constantLong RX5 273 (31)) := rfl
theorem wa_1997 : wAt 1997 = some (.methodLink RX5 284 yX5_mixTower) := rfl
theorem wa_1998 : wAt 1998 = some (.instanceMethod yX5_mixTower) := rfl
theorem wa_1999 : wAt 1999 = some (.selects RX5 yX5_mixTower yX5_mixTower) := rfl
theorem wa_2000 : wAt 2000 = some (.code yX5_mixTower cX5_mixTower 2 none) := rfl
theorem chX4 {A : List Nat} {a : Cond} (h : (List.range 9).all (fun j => decide (64 * 32 + j ∈ A)) = true) : ∀ w ∈ wsX40, w ∈ a :: pickW A := chW (c := 32) rfl rfl (by decide) h
theorem chX5 {A : List Nat} {a : Cond} (h : (List.range 30).all (fun j => decide (64 * 33 + j ∈ A)) = true) : ∀ w ∈ wsX50, w ∈ a :: pickW A := chW (c := 33) rfl rfl (by decide) h
theorem chX2 {A : List Nat} {a : Cond} (h : (List.range 4).all (fun j => decide (64 * 34 + j ∈ A)) = true) : ∀ w ∈ wsX20, w ∈ a :: pickW A := chW (c := 34) rfl rfl (by decide) h
theorem chX1 {A : List Nat} {a : Cond} (h : (List.range 9).all (fun j => decide (64 * 35 + j ∈ A)) = true) : ∀ w ∈ wsX10, w ∈ a :: pickW A := chW (c := 35) rfl rfl (by decide) h
theorem chX0 {A : List Nat} {a : Cond} (h : (List.range 3).all (fun j => decide (64 * 36 + j ∈ A)) = true) : ∀ w ∈ wsX00, w ∈ a :: pickW A := chW (c := 36) rfl rfl (by decide) h
theorem chX3 {A : List Nat} {a : Cond} (h : (List.range 4).all (fun j => decide (64 * 37 + j ∈ A)) = true) : ∀ w ∈ wsX30, w ∈ a :: pickW A := chW (c := 37) rfl rfl (by decide) h
def idX0_init : List Nat := [10, 11, 12, 72, 73, 74, 75, 2304, 2305, 2306]
def wsX0_init : List Cond := .code yX0_init cX0_init 1 none :: pickW idX0_init
def idX4_turnRow : List Nat := [147, 148]
def wsX4_turnRow : List Cond := .code yX4_turnRow cX4_turnRow 10 none :: pickW idX4_turnRow
def idX0_turnOver : List Nat := [2, 75, 146, 147, 148, 970, 971, 2304, 2305, 2306]
def wsX0_turnOver : List Cond := .code yX0_turnOver cX0_turnOver 2 none :: pickW idX0_turnOver
def idX0_copyFrom : List Nat := [74, 75, 143, 144, 145, 971, 1728, 1729, 2304, 2305, 2306]
def wsX0_copyFrom : List Cond := .code yX0_copyFrom cX0_copyFrom 2 none :: pickW idX0_copyFrom
def idX4_canTurn : List Nat := [136, 137]
def wsX4_canTurn : List Cond := .code yX4_canTurn cX4_canTurn 2 (some .boolean) :: pickW idX4_canTurn
def idX3_sameRows : List Nat := [132, 196, 2368, 2369, 2370, 2371]
def wsX3_sameRows : List Cond := .code yX3_sameRows cX3_sameRows 4 (some .boolean) :: pickW idX3_sameRows
def idX3_find : List Nat := [81, 131, 132, 192, 193, 194, 195, 196, 2368, 2369, 2370, 2371]
def wsX3_find : List Cond := .code yX3_find cX3_find 2 (some .int) :: pickW idX3_find
def idX3_reach : List Nat := [2, 81, 131, 132, 133, 134, 141, 142, 143, 144, 145, 146, 147, 148, 149, 150, 151, 192, 193, 194, 195, 196, 2368, 2369, 2370, 2371]
def wsX3_reach : List Cond := .code yX3_reach cX3_reach 5 none :: pickW idX3_reach
def idX3_init : List Nat := [2, 10, 11, 12, 81, 129, 130, 131, 132, 133, 134, 135, 136, 137, 138, 139, 140, 141, 142, 143, 144, 145, 146, 147, 148, 149, 150, 151, 192, 193, 194, 195, 196, 2368, 2369, 2370, 2371]
def wsX3_init : List Cond := .code yX3_init cX3_init 4 none :: pickW idX3_init
def idX1_init : List Nat := [2, 10, 11, 12, 77, 78, 79, 80, 81, 82, 83, 84, 85, 86, 87, 128, 129, 130, 131, 132, 133, 134, 135, 136, 137, 138, 139, 140, 141, 142, 143, 144, 145, 146, 147, 148, 149, 150, 151, 192, 193, 194, 195, 196, 2240, 2241, 2242, 2243, 2244, 2245, 2246, 2247, 2248, 2368, 2369, 2370, 2371]
def wsX1_init : List Cond := .code yX1_init cX1_init 1 none :: pickW idX1_init
def idX2_has : List Nat := [716, 717, 2176, 2177, 2178, 2179]
def wsX2_has : List Cond := .code yX2_has cX2_has 2 (some .boolean) :: pickW idX2_has
def idX1_wallsOf : List Nat := [1174, 1175, 1216, 2304, 2305, 2306, 2368, 2369, 2370, 2371]
def wsX1_wallsOf : List Cond := .code yX1_wallsOf cX1_wallsOf 6 (some .int) :: pickW idX1_wallsOf
def idX1_layOut : List Nat := [16, 22, 82, 83, 85, 714, 715, 716, 717, 1164, 1168, 1169, 1170, 1171, 1172, 1173, 1174, 1175, 1216, 2176, 2177, 2178, 2179, 2240, 2241, 2242, 2243, 2244, 2245, 2246, 2247, 2248, 2304, 2305, 2306, 2368, 2369, 2370, 2371]
def wsX1_layOut : List Cond := .code yX1_layOut cX1_layOut 7 none :: pickW idX1_layOut
def idJ6_bitCount_0f7a4 : List Nat := [726, 727, 768, 769]
def wsJ6_bitCount_0f7a4 : List Cond := .code yJ6_bitCount_0f7a4 cJ6_bitCount_0f7a4 1 (some .int) :: pickW idJ6_bitCount_0f7a4
def idX1_addSolution : List Nat := [83, 1159, 1160, 1161, 1226, 1227, 1228, 2240, 2241, 2242, 2243, 2244, 2245, 2246, 2247, 2248, 2368, 2369, 2370, 2371]
def wsX1_addSolution : List Cond := .code yX1_addSolution cX1_addSolution 5 none :: pickW idX1_addSolution
def idX1_tryThird : List Nat := [22, 83, 85, 396, 399, 400, 724, 725, 726, 727, 768, 769, 1159, 1160, 1161, 1163, 1164, 1217, 1221, 1222, 1223, 1224, 1225, 1226, 1227, 1228, 2240, 2241, 2242, 2243, 2244, 2245, 2246, 2247, 2248, 2368, 2369, 2370, 2371]
def wsX1_tryThird : List Cond := .code yX1_tryThird cX1_tryThird 9 none :: pickW idX1_tryThird
def idX1_look : List Nat := [16, 22, 82, 83, 85, 396, 399, 400, 714, 715, 716, 717, 724, 725, 726, 727, 768, 769, 1158, 1159, 1160, 1161, 1162, 1163, 1164, 1165, 1166, 1167, 1168, 1169, 1170, 1171, 1172, 1173, 1174, 1175, 1216, 1217, 1218, 1219, 1220, 1221, 1222, 1223, 1224, 1225, 1226, 1227, 1228, 2176, 2177, 2178, 2179, 2240, 2241, 2242, 2243, 2244, 2245, 2246, 2247, 2248, 2304, 2305, 2306, 2368, 2369, 2370, 2371]
def wsX1_look : List Cond := .code yX1_look cX1_look 5 none :: pickW idX1_look
def idJ6_numberOfTrailingZeros_0f7a4 : List Nat := [1416, 1417]
def wsJ6_numberOfTrailingZeros_0f7a4 : List Cond := .code yJ6_numberOfTrailingZeros_0f7a4 cJ6_numberOfTrailingZeros_0f7a4 2 (some .int) :: pickW idJ6_numberOfTrailingZeros_0f7a4
def idX1_firstTurn : List Nat := [725, 1161, 1413, 1414, 1415, 1416, 1417, 2240, 2241, 2242, 2243, 2244, 2245, 2246, 2247, 2248]
def wsX1_firstTurn : List Cond := .code yX1_firstTurn cX1_firstTurn 2 (some .int) :: pickW idX1_firstTurn
def idX1_allWays : List Nat := [83, 1164, 1604, 2240, 2241, 2242, 2243, 2244, 2245, 2246, 2247, 2248, 2368, 2369, 2370, 2371]
def wsX1_allWays : List Cond := .code yX1_allWays cX1_allWays 1 (some .int) :: pickW idX1_allWays
def idX1_pairOthers : List Nat := [83, 85, 86, 1164, 1490, 1491, 2240, 2241, 2242, 2243, 2244, 2245, 2246, 2247, 2248, 2368, 2369, 2370, 2371]
def wsX1_pairOthers : List Cond := .code yX1_pairOthers cX1_pairOthers 8 none :: pickW idX1_pairOthers
def idX3_placeOf : List Nat := [132, 1539, 2368, 2369, 2370, 2371]
def wsX3_placeOf : List Cond := .code yX3_placeOf cX3_placeOf 4 (some .int) :: pickW idX3_placeOf
def idX1_coloursFree : List Nat := [86, 1491, 1543, 2240, 2241, 2242, 2243, 2244, 2245, 2246, 2247, 2248]
def wsX1_coloursFree : List Cond := .code yX1_coloursFree cX1_coloursFree 6 (some .int) :: pickW idX1_coloursFree
def idX1_helpfulColours : List Nat := [22, 81, 83, 85, 86, 132, 1164, 1491, 1495, 1536, 1537, 1538, 1539, 1540, 1541, 1542, 1543, 2240, 2241, 2242, 2243, 2244, 2245, 2246, 2247, 2248, 2368, 2369, 2370, 2371]
def wsX1_helpfulColours : List Cond := .code yX1_helpfulColours cX1_helpfulColours 6 (some .int) :: pickW idX1_helpfulColours
def idX1_sideToPaint : List Nat := [22, 81, 83, 85, 86, 132, 725, 1164, 1414, 1415, 1416, 1417, 1486, 1487, 1488, 1489, 1490, 1491, 1492, 1493, 1494, 1495, 1536, 1537, 1538, 1539, 1540, 1541, 1542, 1543, 2240, 2241, 2242, 2243, 2244, 2245, 2246, 2247, 2248, 2368, 2369, 2370, 2371]
def wsX1_sideToPaint : List Cond := .code yX1_sideToPaint cX1_sideToPaint 5 (some .int) :: pickW idX1_sideToPaint
def idX2_init : List Nat := [10, 11, 12, 65, 66, 67, 68, 69, 70, 71, 72, 73, 74, 75, 2176, 2177, 2178, 2179, 2304, 2305, 2306]
def wsX2_init : List Cond := .code yX2_init cX2_init 1 none :: pickW idX2_init
def idX2_copyFrom : List Nat := [69, 70, 74, 75, 143, 144, 145, 656, 717, 971, 1683, 1684, 1685, 1686, 1687, 1728, 1729, 2176, 2177, 2178, 2179, 2304, 2305, 2306]
def wsX2_copyFrom : List Cond := .code yX2_copyFrom cX2_copyFrom 3 none :: pickW idX2_copyFrom
def idX2_forgetAll : List Nat := [70, 655, 656, 657, 2176, 2177, 2178, 2179, 2304, 2305, 2306]
def wsX2_forgetAll : List Cond := .code yX2_forgetAll cX2_forgetAll 2 none :: pickW idX2_forgetAll
def idX2_clashesOn : List Nat := [70, 717, 905, 906, 2176, 2177, 2178, 2179, 2304, 2305, 2306]
def wsX2_clashesOn : List Cond := .code yX2_clashesOn cX2_clashesOn 6 (some .int) :: pickW idX2_clashesOn
def idX2_clashes : List Nat := [16, 70, 717, 903, 904, 905, 906, 975, 976, 2176, 2177, 2178, 2179, 2304, 2305, 2306]
def wsX2_clashes : List Cond := .code yX2_clashes cX2_clashes 3 (some .int) :: pickW idX2_clashes
def idX2_goodWalls : List Nat := [16, 70, 717, 903, 904, 905, 906, 976, 1864, 2176, 2177, 2178, 2179, 2304, 2305, 2306]
def wsX2_goodWalls : List Cond := .code yX2_goodWalls cX2_goodWalls 3 (some .int) :: pickW idX2_goodWalls
def idX2_coloursUsed : List Nat := [70, 717, 724, 725, 726, 727, 768, 769, 906, 1868, 1869, 2176, 2177, 2178, 2179, 2304, 2305, 2306]
def wsX2_coloursUsed : List Cond := .code yX2_coloursUsed cX2_coloursUsed 4 (some .int) :: pickW idX2_coloursUsed
def idX4_init : List Nat := [2, 8, 9, 10, 11, 12, 13, 14, 15, 16, 17, 18, 19, 20, 21, 22, 23, 64, 65, 66, 67, 68, 69, 70, 71, 72, 73, 74, 75, 76, 77, 78, 79, 80, 81, 82, 83, 84, 85, 86, 87, 128, 129, 130, 131, 132, 133, 134, 135, 136, 137, 138, 139, 140, 141, 142, 143, 144, 145, 146, 147, 148, 149, 150, 151, 192, 193, 194, 195, 196, 2048, 2049, 2050, 2051, 2052, 2053, 2054, 2055, 2056, 2176, 2177, 2178, 2179, 2240, 2241, 2242, 2243, 2244, 2245, 2246, 2247, 2248, 2304, 2305, 2306, 2368, 2369, 2370, 2371]
def wsX4_init : List Cond := .code yX4_init cX4_init 1 none :: pickW idX4_init
def idX4_letter : List Nat := [13, 261, 262, 2048, 2049, 2050, 2051, 2052, 2053, 2054, 2055, 2056]
def wsX4_letter : List Cond := .code yX4_letter cX4_letter 2 (some .int) :: pickW idX4_letter
def idX4_blank : List Nat := [262, 274, 2048, 2049, 2050, 2051, 2052, 2053, 2054, 2055, 2056]
def wsX4_blank : List Cond := .code yX4_blank cX4_blank 2 (some .int) :: pickW idX4_blank
def idJ0_isLatin1_aae02 : List Nat := [339, 340, 341]
def wsJ0_isLatin1_aae02 : List Cond := .code yJ0_isLatin1_aae02 cJ0_isLatin1_aae02 1 (some .boolean) :: pickW idJ0_isLatin1_aae02
def idJ0_coder_7d493 : List Nat := [340, 341, 389]
def wsJ0_coder_7d493 : List Cond := .code yJ0_coder_7d493 cJ0_coder_7d493 1 (some .byte) :: pickW idJ0_coder_7d493
def idJ0_length_8abf5 : List Nat := [329, 335, 340, 341, 385, 386, 387, 388, 389]
def wsJ0_length_8abf5 : List Cond := .code yJ0_length_8abf5 cJ0_length_8abf5 1 (some .int) :: pickW idJ0_length_8abf5
def idJ1_canEncode_9a6ad : List Nat := [403]
def wsJ1_canEncode_9a6ad : List Cond := .code yJ1_canEncode_9a6ad cJ1_canEncode_9a6ad 1 (some .boolean) :: pickW idJ1_canEncode_9a6ad
def idJ1_indexOfChar_4cfef : List Nat := [406]
def wsJ1_indexOfChar_4cfef : List Cond := .code yJ1_indexOfChar_4cfef cJ1_indexOfChar_4cfef 6 (some .int) :: pickW idJ1_indexOfChar_4cfef
def idJ1_indexOf_4cfef : List Nat := [392, 393, 394, 395, 396, 397, 398, 399, 400, 401, 402, 403, 404, 405, 406]
def wsJ1_indexOf_4cfef : List Cond := .code yJ1_indexOf_4cfef cJ1_indexOf_4cfef 4 (some .int) :: pickW idJ1_indexOf_4cfef
def idJ2_length_9d52b : List Nat := [462]
def wsJ2_length_9d52b : List Cond := .code yJ2_length_9d52b cJ2_length_9d52b 1 (some .int) :: pickW idJ2_length_9d52b
def idJ3_checkFromToIndex_8c36e : List Nat := [470]
def wsJ3_checkFromToIndex_8c36e : List Cond := .code yJ3_checkFromToIndex_8c36e cJ3_checkFromToIndex_8c36e 4 (some .int) :: pickW idJ3_checkFromToIndex_8c36e
def idJ0_checkBoundsBeginEnd_23922 : List Nat := [465, 466, 467, 468, 469, 470]
def wsJ0_checkBoundsBeginEnd_23922 : List Cond := .code yJ0_checkBoundsBeginEnd_23922 cJ0_checkBoundsBeginEnd_23922 3 none :: pickW idJ0_checkBoundsBeginEnd_23922
def idJ2_checkBoundsBeginEnd_d044e : List Nat := [329, 449, 459, 460, 461, 462, 463, 464, 465, 466, 467, 468, 469, 470]
def wsJ2_checkBoundsBeginEnd_d044e : List Cond := .code yJ2_checkBoundsBeginEnd_d044e cJ2_checkBoundsBeginEnd_d044e 3 none :: pickW idJ2_checkBoundsBeginEnd_d044e
def idJ2_getChar_3b067 : List Nat := [449, 460, 461, 462, 516, 517, 518, 519]
def wsJ2_getChar_3b067 : List Cond := .code yJ2_getChar_3b067 cJ2_getChar_3b067 2 (some .char) :: pickW idJ2_getChar_3b067
def idJ2_indexOfCharUnsafe_4cfef : List Nat := [449, 460, 461, 462, 513, 514, 515, 516, 517, 518, 519]
def wsJ2_indexOfCharUnsafe_4cfef : List Cond := .code yJ2_indexOfCharUnsafe_4cfef cJ2_indexOfCharUnsafe_4cfef 5 (some .int) :: pickW idJ2_indexOfCharUnsafe_4cfef
def idJ2_indexOfChar_4cfef : List Nat := [329, 449, 456, 457, 458, 459, 460, 461, 462, 463, 464, 465, 466, 467, 468, 469, 470, 471, 512, 513, 514, 515, 516, 517, 518, 519]
def wsJ2_indexOfChar_4cfef : List Cond := .code yJ2_indexOfChar_4cfef cJ2_indexOfChar_4cfef 4 (some .int) :: pickW idJ2_indexOfChar_4cfef
def idJ11_isValidCodePoint_9a6ad : List Nat := [526]
def wsJ11_isValidCodePoint_9a6ad : List Cond := .code yJ11_isValidCodePoint_9a6ad cJ11_isValidCodePoint_9a6ad 2 (some .boolean) :: pickW idJ11_isValidCodePoint_9a6ad
def idJ11_highSurrogate_5068e : List Nat := [529, 530]
def wsJ11_highSurrogate_5068e : List Cond := .code yJ11_highSurrogate_5068e cJ11_highSurrogate_5068e 1 (some .char) :: pickW idJ11_highSurrogate_5068e
def idJ11_lowSurrogate_5068e : List Nat := [533, 534]
def wsJ11_lowSurrogate_5068e : List Cond := .code yJ11_lowSurrogate_5068e cJ11_lowSurrogate_5068e 1 (some .char) :: pickW idJ11_lowSurrogate_5068e
def idJ2_indexOfSupplementary_4cfef : List Nat := [329, 449, 457, 458, 459, 460, 461, 462, 463, 464, 465, 466, 467, 468, 469, 470, 514, 515, 516, 517, 518, 519, 522, 523, 524, 525, 526, 527, 528, 529, 530, 531, 532, 533, 534]
def wsJ2_indexOfSupplementary_4cfef : List Cond := .code yJ2_indexOfSupplementary_4cfef cJ2_indexOfSupplementary_4cfef 7 (some .int) :: pickW idJ2_indexOfSupplementary_4cfef
def idJ2_indexOf_4cfef : List Nat := [329, 395, 396, 397, 399, 400, 449, 450, 451, 452, 453, 454, 455, 456, 457, 458, 459, 460, 461, 462, 463, 464, 465, 466, 467, 468, 469, 470, 471, 512, 513, 514, 515, 516, 517, 518, 519, 520, 521, 522, 523, 524, 525, 526, 527, 528, 529, 530, 531, 532, 533, 534]
def wsJ2_indexOf_4cfef : List Cond := .code yJ2_indexOf_4cfef cJ2_indexOf_4cfef 4 (some .int) :: pickW idJ2_indexOf_4cfef
def idJ0_indexOf_7cf53 : List Nat := [329, 334, 335, 336, 337, 338, 339, 340, 341, 342, 343, 384, 385, 386, 387, 388, 389, 390, 391, 392, 393, 394, 395, 396, 397, 398, 399, 400, 401, 402, 403, 404, 405, 406, 407, 448, 449, 450, 451, 452, 453, 454, 455, 456, 457, 458, 459, 460, 461, 462, 463, 464, 465, 466, 467, 468, 469, 470, 471, 512, 513, 514, 515, 516, 517, 518, 519, 520, 521, 522, 523, 524, 525, 526, 527, 528, 529, 530, 531, 532, 533, 534]
def wsJ0_indexOf_7cf53 : List Cond := .code yJ0_indexOf_7cf53 cJ0_indexOf_7cf53 3 (some .int) :: pickW idJ0_indexOf_7cf53
def idJ0_indexOf_0f7a4 : List Nat := [329, 330, 331, 332, 333, 334, 335, 336, 337, 338, 339, 340, 341, 342, 343, 384, 385, 386, 387, 388, 389, 390, 391, 392, 393, 394, 395, 396, 397, 398, 399, 400, 401, 402, 403, 404, 405, 406, 407, 448, 449, 450, 451, 452, 453, 454, 455, 456, 457, 458, 459, 460, 461, 462, 463, 464, 465, 466, 467, 468, 469, 470, 471, 512, 513, 514, 515, 516, 517, 518, 519, 520, 521, 522, 523, 524, 525, 526, 527, 528, 529, 530, 531, 532, 533, 534]
def wsJ0_indexOf_0f7a4 : List Cond := .code yJ0_indexOf_0f7a4 cJ0_indexOf_0f7a4 2 (some .int) :: pickW idJ0_indexOf_0f7a4
def idX4_fits : List Nat := [325, 326, 327, 328, 329, 330, 331, 332, 333, 334, 335, 336, 337, 338, 339, 340, 341, 342, 343, 384, 385, 386, 387, 388, 389, 390, 391, 392, 393, 394, 395, 396, 397, 398, 399, 400, 401, 402, 403, 404, 405, 406, 407, 448, 449, 450, 451, 452, 453, 454, 455, 456, 457, 458, 459, 460, 461, 462, 463, 464, 465, 466, 467, 468, 469, 470, 471, 512, 513, 514, 515, 516, 517, 518, 519, 520, 521, 522, 523, 524, 525, 526, 527, 528, 529, 530, 531, 532, 533, 534]
def wsX4_fits : List Cond := .code yX4_fits cX4_fits 3 (some .boolean) :: pickW idX4_fits
def idX4_fault : List Nat := [2, 13, 262, 322, 323, 324, 325, 326, 327, 328, 329, 330, 331, 332, 333, 334, 335, 336, 337, 338, 339, 340, 341, 342, 343, 384, 385, 386, 387, 388, 389, 390, 391, 392, 393, 394, 395, 396, 397, 398, 399, 400, 401, 402, 403, 404, 405, 406, 407, 448, 449, 450, 451, 452, 453, 454, 455, 456, 457, 458, 459, 460, 461, 462, 463, 464, 465, 466, 467, 468, 469, 470, 471, 512, 513, 514, 515, 516, 517, 518, 519, 520, 521, 522, 523, 524, 525, 526, 527, 528, 529, 530, 531, 532, 533, 534, 2048, 2049, 2050, 2051, 2052, 2053, 2054, 2055, 2056]
def wsX4_fault : List Cond := .code yX4_fault cX4_fault 2 (some .int) :: pickW idX4_fault
def idX4_readPage : List Nat := [13, 16, 17, 70, 326, 327, 328, 329, 330, 331, 332, 333, 334, 335, 336, 337, 338, 339, 340, 341, 342, 343, 384, 385, 386, 387, 388, 389, 390, 391, 392, 393, 394, 395, 396, 397, 398, 399, 400, 401, 402, 403, 404, 405, 406, 407, 448, 449, 450, 451, 452, 453, 454, 455, 456, 457, 458, 459, 460, 461, 462, 463, 464, 465, 466, 467, 468, 469, 470, 471, 512, 513, 514, 515, 516, 517, 518, 519, 520, 521, 522, 523, 524, 525, 526, 527, 528, 529, 530, 531, 532, 533, 534, 641, 647, 648, 649, 650, 651, 652, 653, 654, 655, 656, 657, 2048, 2049, 2050, 2051, 2052, 2053, 2054, 2055, 2056, 2176, 2177, 2178, 2179, 2304, 2305, 2306]
def wsX4_readPage : List Cond := .code yX4_readPage cX4_readPage 5 none :: pickW idX4_readPage
def idX4_tower : List Nat := [2, 13, 16, 17, 18, 70, 262, 320, 321, 322, 323, 324, 325, 326, 327, 328, 329, 330, 331, 332, 333, 334, 335, 336, 337, 338, 339, 340, 341, 342, 343, 384, 385, 386, 387, 388, 389, 390, 391, 392, 393, 394, 395, 396, 397, 398, 399, 400, 401, 402, 403, 404, 405, 406, 407, 448, 449, 450, 451, 452, 453, 454, 455, 456, 457, 458, 459, 460, 461, 462, 463, 464, 465, 466, 467, 468, 469, 470, 471, 512, 513, 514, 515, 516, 517, 518, 519, 520, 521, 522, 523, 524, 525, 526, 527, 528, 529, 530, 531, 532, 533, 534, 599, 640, 641, 642, 643, 644, 645, 646, 647, 648, 649, 650, 651, 652, 653, 654, 655, 656, 657, 2048, 2049, 2050, 2051, 2052, 2053, 2054, 2055, 2056, 2176, 2177, 2178, 2179, 2304, 2305, 2306]
def wsX4_tower : List Cond := .code yX4_tower cX4_tower 3 (some .int) :: pickW idX4_tower
def idX4_nextQuestion : List Nat := [395, 396, 397, 720, 721, 722, 723, 724, 725, 726, 727, 768, 769]
def wsX4_nextQuestion : List Cond := .code yX4_nextQuestion cX4_nextQuestion 7 (some .int) :: pickW idX4_nextQuestion
def idX4_cube : List Nat := [2, 16, 17, 23, 137, 395, 396, 397, 649, 650, 651, 709, 710, 711, 712, 713, 714, 715, 716, 717, 718, 719, 720, 721, 722, 723, 724, 725, 726, 727, 768, 769, 2048, 2049, 2050, 2051, 2052, 2053, 2054, 2055, 2056, 2176, 2177, 2178, 2179, 2240, 2241, 2242, 2243, 2244, 2245, 2246, 2247, 2248, 2304, 2305, 2306, 2368, 2369, 2370, 2371]
def wsX4_cube : List Cond := .code yX4_cube cX4_cube 4 (some .int) :: pickW idX4_cube
def idX4_as : List Nat := [16, 17, 649, 650, 713, 714, 715, 716, 717, 852, 853, 2048, 2049, 2050, 2051, 2052, 2053, 2054, 2055, 2056, 2176, 2177, 2178, 2179, 2304, 2305, 2306]
def wsX4_as : List Cond := .code yX4_as cX4_as 3 (some .int) :: pickW idX4_as
def idX4_wall : List Nat := [16, 17, 70, 641, 717, 901, 902, 903, 904, 905, 906, 2048, 2049, 2050, 2051, 2052, 2053, 2054, 2055, 2056, 2176, 2177, 2178, 2179, 2304, 2305, 2306]
def wsX4_wall : List Cond := .code yX4_wall cX4_wall 4 (some .int) :: pickW idX4_wall
def idX4_turn : List Nat := [2, 16, 17, 69, 70, 75, 135, 136, 137, 146, 147, 148, 642, 648, 649, 650, 713, 714, 715, 716, 717, 903, 904, 905, 906, 965, 966, 967, 968, 969, 970, 971, 972, 973, 974, 975, 976, 2048, 2049, 2050, 2051, 2052, 2053, 2054, 2055, 2056, 2176, 2177, 2178, 2179, 2304, 2305, 2306]
def wsX4_turn : List Cond := .code yX4_turn cX4_turn 3 (some .int) :: pickW idX4_turn
def idX4_paint : List Nat := [16, 17, 642, 649, 651, 713, 714, 715, 716, 717, 1041, 2048, 2049, 2050, 2051, 2052, 2053, 2054, 2055, 2056, 2176, 2177, 2178, 2179, 2304, 2305, 2306]
def wsX4_paint : List Cond := .code yX4_paint cX4_paint 5 (some .int) :: pickW idX4_paint
def idX4_swap : List Nat := [16, 17, 70, 642, 649, 713, 714, 715, 716, 717, 903, 904, 905, 906, 972, 973, 974, 975, 976, 1092, 2048, 2049, 2050, 2051, 2052, 2053, 2054, 2055, 2056, 2176, 2177, 2178, 2179, 2304, 2305, 2306]
def wsX4_swap : List Cond := .code yX4_swap cX4_swap 4 (some .int) :: pickW idX4_swap
def idX4_be : List Nat := [16, 17, 642, 649, 650, 713, 714, 715, 716, 717, 1100, 2048, 2049, 2050, 2051, 2052, 2053, 2054, 2055, 2056, 2176, 2177, 2178, 2179, 2304, 2305, 2306]
def wsX4_be : List Cond := .code yX4_be cX4_be 4 (some .int) :: pickW idX4_be
def idX4_lookAround : List Nat := [16, 17, 22, 23, 82, 83, 85, 396, 399, 400, 642, 714, 715, 716, 717, 724, 725, 726, 727, 768, 769, 1154, 1155, 1156, 1157, 1158, 1159, 1160, 1161, 1162, 1163, 1164, 1165, 1166, 1167, 1168, 1169, 1170, 1171, 1172, 1173, 1174, 1175, 1216, 1217, 1218, 1219, 1220, 1221, 1222, 1223, 1224, 1225, 1226, 1227, 1228, 2048, 2049, 2050, 2051, 2052, 2053, 2054, 2055, 2056, 2176, 2177, 2178, 2179, 2240, 2241, 2242, 2243, 2244, 2245, 2246, 2247, 2248, 2304, 2305, 2306, 2368, 2369, 2370, 2371]
def wsX4_lookAround : List Cond := .code yX4_lookAround cX4_lookAround 1 none :: pickW idX4_lookAround
def idX4_ways : List Nat := [2, 16, 17, 22, 23, 82, 83, 85, 396, 399, 400, 641, 642, 714, 715, 716, 717, 724, 725, 726, 727, 768, 769, 1108, 1109, 1110, 1111, 1152, 1153, 1154, 1155, 1156, 1157, 1158, 1159, 1160, 1161, 1162, 1163, 1164, 1165, 1166, 1167, 1168, 1169, 1170, 1171, 1172, 1173, 1174, 1175, 1216, 1217, 1218, 1219, 1220, 1221, 1222, 1223, 1224, 1225, 1226, 1227, 1228, 2048, 2049, 2050, 2051, 2052, 2053, 2054, 2055, 2056, 2176, 2177, 2178, 2179, 2240, 2241, 2242, 2243, 2244, 2245, 2246, 2247, 2248, 2304, 2305, 2306, 2368, 2369, 2370, 2371]
def wsX4_ways : List Cond := .code yX4_ways cX4_ways 2 (some .int) :: pickW idX4_ways
def idX4_turning : List Nat := [2, 16, 17, 22, 23, 82, 83, 85, 396, 399, 400, 641, 642, 714, 715, 716, 717, 724, 725, 726, 727, 768, 769, 1109, 1111, 1152, 1153, 1154, 1155, 1156, 1157, 1158, 1159, 1160, 1161, 1162, 1163, 1164, 1165, 1166, 1167, 1168, 1169, 1170, 1171, 1172, 1173, 1174, 1175, 1216, 1217, 1218, 1219, 1220, 1221, 1222, 1223, 1224, 1225, 1226, 1227, 1228, 1408, 1409, 1410, 1411, 1412, 1413, 1414, 1415, 1416, 1417, 2048, 2049, 2050, 2051, 2052, 2053, 2054, 2055, 2056, 2176, 2177, 2178, 2179, 2240, 2241, 2242, 2243, 2244, 2245, 2246, 2247, 2248, 2304, 2305, 2306, 2368, 2369, 2370, 2371]
def wsX4_turning : List Cond := .code yX4_turning cX4_turning 2 (some .int) :: pickW idX4_turning
def idX4_repaint : List Nat := [2, 16, 17, 22, 23, 81, 82, 83, 85, 86, 132, 396, 399, 400, 641, 642, 714, 715, 716, 717, 724, 725, 726, 727, 768, 769, 1109, 1111, 1152, 1153, 1154, 1155, 1156, 1157, 1158, 1159, 1160, 1161, 1162, 1163, 1164, 1165, 1166, 1167, 1168, 1169, 1170, 1171, 1172, 1173, 1174, 1175, 1216, 1217, 1218, 1219, 1220, 1221, 1222, 1223, 1224, 1225, 1226, 1227, 1228, 1414, 1415, 1416, 1417, 1481, 1482, 1483, 1484, 1485, 1486, 1487, 1488, 1489, 1490, 1491, 1492, 1493, 1494, 1495, 1536, 1537, 1538, 1539, 1540, 1541, 1542, 1543, 2048, 2049, 2050, 2051, 2052, 2053, 2054, 2055, 2056, 2176, 2177, 2178, 2179, 2240, 2241, 2242, 2243, 2244, 2245, 2246, 2247, 2248, 2304, 2305, 2306, 2368, 2369, 2370, 2371]
def wsX4_repaint : List Cond := .code yX4_repaint cX4_repaint 1 (some .int) :: pickW idX4_repaint
def idX4_commonDivisor : List Nat := [1607]
def wsX4_commonDivisor : List Cond := .code yX4_commonDivisor cX4_commonDivisor 6 (some .int) :: pickW idX4_commonDivisor
def idX4_odds : List Nat := [2, 16, 17, 22, 23, 82, 83, 85, 396, 399, 400, 641, 642, 714, 715, 716, 717, 724, 725, 726, 727, 768, 769, 1109, 1111, 1152, 1153, 1154, 1155, 1156, 1157, 1158, 1159, 1160, 1161, 1162, 1163, 1164, 1165, 1166, 1167, 1168, 1169, 1170, 1171, 1172, 1173, 1174, 1175, 1216, 1217, 1218, 1219, 1220, 1221, 1222, 1223, 1224, 1225, 1226, 1227, 1228, 1600, 1601, 1602, 1603, 1604, 1605, 1606, 1607, 2048, 2049, 2050, 2051, 2052, 2053, 2054, 2055, 2056, 2176, 2177, 2178, 2179, 2240, 2241, 2242, 2243, 2244, 2245, 2246, 2247, 2248, 2304, 2305, 2306, 2368, 2369, 2370, 2371]
def wsX4_odds : List Cond := .code yX4_odds cX4_odds 5 (some .int) :: pickW idX4_odds
def idX4_see : List Nat := [16, 17, 649, 712, 713, 714, 715, 716, 717, 721, 1622, 1623, 2048, 2049, 2050, 2051, 2052, 2053, 2054, 2055, 2056, 2176, 2177, 2178, 2179, 2304, 2305, 2306]
def wsX4_see : List Cond := .code yX4_see cX4_see 5 (some .int) :: pickW idX4_see
def idX4_forget : List Nat := [16, 17, 70, 652, 653, 654, 655, 656, 657, 1623, 1671, 2048, 2049, 2050, 2051, 2052, 2053, 2054, 2055, 2056, 2176, 2177, 2178, 2179, 2304, 2305, 2306]
def wsX4_forget : List Cond := .code yX4_forget cX4_forget 2 (some .int) :: pickW idX4_forget
def idX4_nextSeed : List Nat := [1732, 1733, 1734, 1735]
def wsX4_nextSeed : List Cond := .code yX4_nextSeed cX4_nextSeed 1 (some .int) :: pickW idX4_nextSeed
def idX4_draw : List Nat := [1738, 1739]
def wsX4_draw : List Cond := .code yX4_draw cX4_draw 2 (some .int) :: pickW idX4_draw
def idX4_runs : List Nat := [2, 16, 17, 19, 69, 70, 74, 75, 135, 136, 137, 143, 144, 145, 146, 147, 148, 641, 649, 650, 656, 713, 714, 715, 716, 717, 903, 904, 905, 906, 966, 967, 968, 969, 970, 971, 972, 973, 974, 975, 976, 1679, 1680, 1681, 1682, 1683, 1684, 1685, 1686, 1687, 1728, 1729, 1730, 1731, 1732, 1733, 1734, 1735, 1736, 1737, 1738, 1739, 2048, 2049, 2050, 2051, 2052, 2053, 2054, 2055, 2056, 2176, 2177, 2178, 2179, 2304, 2305, 2306]
def wsX4_runs : List Cond := .code yX4_runs cX4_runs 9 (some .int) :: pickW idX4_runs
def idX4_image : List Nat := [16, 17, 18, 69, 70, 74, 75, 143, 144, 145, 641, 648, 656, 717, 971, 1680, 1681, 1682, 1683, 1684, 1685, 1686, 1687, 1728, 1729, 1800, 2048, 2049, 2050, 2051, 2052, 2053, 2054, 2055, 2056, 2176, 2177, 2178, 2179, 2304, 2305, 2306]
def wsX4_image : List Cond := .code yX4_image cX4_image 1 (some .int) :: pickW idX4_image
def idX4_restore : List Nat := [16, 17, 18, 69, 70, 74, 75, 143, 144, 145, 641, 642, 648, 656, 717, 971, 1680, 1681, 1682, 1683, 1684, 1685, 1686, 1687, 1728, 1729, 1812, 2048, 2049, 2050, 2051, 2052, 2053, 2054, 2055, 2056, 2176, 2177, 2178, 2179, 2304, 2305, 2306]
def wsX4_restore : List Cond := .code yX4_restore cX4_restore 1 (some .int) :: pickW idX4_restore
def idX4_count : List Nat := [16, 17, 70, 262, 640, 641, 648, 717, 724, 725, 726, 727, 768, 769, 903, 904, 905, 906, 972, 973, 974, 975, 976, 1482, 1623, 1860, 1861, 1862, 1863, 1864, 1865, 1866, 1867, 1868, 1869, 2048, 2049, 2050, 2051, 2052, 2053, 2054, 2055, 2056, 2176, 2177, 2178, 2179, 2304, 2305, 2306]
def wsX4_count : List Cond := .code yX4_count cX4_count 2 (some .int) :: pickW idX4_count
def idX4_addCube : List Nat := [2, 16, 17, 23, 137, 395, 396, 397, 649, 650, 651, 707, 708, 709, 710, 711, 712, 713, 714, 715, 716, 717, 718, 719, 720, 721, 722, 723, 724, 725, 726, 727, 768, 769, 1931, 1935, 1936, 2048, 2049, 2050, 2051, 2052, 2053, 2054, 2055, 2056, 2176, 2177, 2178, 2179, 2240, 2241, 2242, 2243, 2244, 2245, 2246, 2247, 2248, 2304, 2305, 2306, 2368, 2369, 2370, 2371]
def wsX4_addCube : List Cond := .code yX4_addCube cX4_addCube 7 (some .long) :: pickW idX4_addCube
def idX4_addWholeTower : List Nat := [2, 16, 17, 22, 23, 70, 82, 83, 85, 396, 399, 400, 641, 642, 714, 715, 716, 717, 724, 725, 726, 727, 768, 769, 899, 900, 901, 902, 903, 904, 905, 906, 1106, 1107, 1108, 1109, 1110, 1111, 1152, 1153, 1154, 1155, 1156, 1157, 1158, 1159, 1160, 1161, 1162, 1163, 1164, 1165, 1166, 1167, 1168, 1169, 1170, 1171, 1172, 1173, 1174, 1175, 1216, 1217, 1218, 1219, 1220, 1221, 1222, 1223, 1224, 1225, 1226, 1227, 1228, 1366, 1367, 1408, 1409, 1410, 1411, 1412, 1413, 1414, 1415, 1416, 1417, 1558, 1559, 1600, 1601, 1602, 1603, 1604, 1605, 1606, 1607, 1931, 1940, 1941, 1942, 1943, 1984, 2048, 2049, 2050, 2051, 2052, 2053, 2054, 2055, 2056, 2176, 2177, 2178, 2179, 2240, 2241, 2242, 2243, 2244, 2245, 2246, 2247, 2248, 2304, 2305, 2306, 2368, 2369, 2370, 2371]
def wsX4_addWholeTower : List Cond := .code yX4_addWholeTower cX4_addWholeTower 6 (some .long) :: pickW idX4_addWholeTower
def idX4_digest : List Nat := [2, 13, 16, 17, 22, 23, 70, 82, 83, 85, 137, 262, 395, 396, 397, 399, 400, 640, 641, 642, 648, 649, 650, 651, 707, 708, 709, 710, 711, 712, 713, 714, 715, 716, 717, 718, 719, 720, 721, 722, 723, 724, 725, 726, 727, 768, 769, 899, 900, 901, 902, 903, 904, 905, 906, 972, 973, 974, 975, 976, 1106, 1107, 1108, 1109, 1110, 1111, 1152, 1153, 1154, 1155, 1156, 1157, 1158, 1159, 1160, 1161, 1162, 1163, 1164, 1165, 1166, 1167, 1168, 1169, 1170, 1171, 1172, 1173, 1174, 1175, 1216, 1217, 1218, 1219, 1220, 1221, 1222, 1223, 1224, 1225, 1226, 1227, 1228, 1366, 1367, 1408, 1409, 1410, 1411, 1412, 1413, 1414, 1415, 1416, 1417, 1482, 1558, 1559, 1600, 1601, 1602, 1603, 1604, 1605, 1606, 1607, 1623, 1858, 1859, 1860, 1861, 1862, 1863, 1864, 1865, 1866, 1867, 1868, 1869, 1929, 1930, 1931, 1932, 1933, 1934, 1935, 1936, 1937, 1938, 1939, 1940, 1941, 1942, 1943, 1984, 1985, 2048, 2049, 2050, 2051, 2052, 2053, 2054, 2055, 2056, 2176, 2177, 2178, 2179, 2240, 2241, 2242, 2243, 2244, 2245, 2246, 2247, 2248, 2304, 2305, 2306, 2368, 2369, 2370, 2371]
def wsX4_digest : List Cond := .code yX4_digest cX4_digest 4 (some .long) :: pickW idX4_digest
def idX5_init : List Nat := [10, 11, 12, 199, 200, 201, 202, 203, 204, 205, 206, 207, 208, 209, 210, 211, 212, 213, 214, 215, 256, 257, 2112, 2113, 2114, 2115, 2116, 2117, 2118, 2119, 2120, 2121, 2122, 2123, 2124, 2125, 2126, 2127, 2128, 2129, 2130, 2131, 2132, 2133, 2134, 2135, 2136, 2137, 2138, 2139, 2140, 2141]
def wsX5_init : List Cond := .code yX5_init cX5_init 1 none :: pickW idX5_init
def idX5_within : List Nat := [270]
def wsX5_within : List Cond := .code yX5_within cX5_within 3 (some .boolean) :: pickW idX5_within
def idX5_isIn : List Nat := [839]
def wsX5_isIn : List Cond := .code yX5_isIn cX5_isIn 2 (some .boolean) :: pickW idX5_isIn
def idX5_size : List Nat := [842]
def wsX5_size : List Cond := .code yX5_size cX5_size 3 (some .int) :: pickW idX5_size
def idX5_divisor : List Nat := [1618]
def wsX5_divisor : List Cond := .code yX5_divisor cX5_divisor 5 (some .int) :: pickW idX5_divisor
def idX5_letter : List Nat := [5, 207, 266, 267, 268, 269, 270, 2112, 2113, 2114, 2115, 2116, 2117, 2118, 2119, 2120, 2121, 2122, 2123, 2124, 2125, 2126, 2127, 2128, 2129, 2130, 2131, 2132, 2133, 2134, 2135, 2136, 2137, 2138, 2139, 2140, 2141]
def wsX5_letter : List Cond := .code yX5_letter cX5_letter 2 (some .int) :: pickW idX5_letter
def idX5_blank : List Nat := [267, 278, 2112, 2113, 2114, 2115, 2116, 2117, 2118, 2119, 2120, 2121, 2122, 2123, 2124, 2125, 2126, 2127, 2128, 2129, 2130, 2131, 2132, 2133, 2134, 2135, 2136, 2137, 2138, 2139, 2140, 2141]
def wsX5_blank : List Cond := .code yX5_blank cX5_blank 2 (some .int) :: pickW idX5_blank
def idX5_kindBy : List Nat := [595]
def wsX5_kindBy : List Cond := .code yX5_kindBy cX5_kindBy 1 (some .int) :: pickW idX5_kindBy
def idX5_at : List Nat := [207, 267, 592, 2112, 2113, 2114, 2115, 2116, 2117, 2118, 2119, 2120, 2121, 2122, 2123, 2124, 2125, 2126, 2127, 2128, 2129, 2130, 2131, 2132, 2133, 2134, 2135, 2136, 2137, 2138, 2139, 2140, 2141]
def wsX5_at : List Cond := .code yX5_at cX5_at 2 (some .int) :: pickW idX5_at
def idX5_readCube : List Nat := [5, 207, 267, 268, 269, 270, 588, 589, 590, 591, 592, 593, 594, 595, 2112, 2113, 2114, 2115, 2116, 2117, 2118, 2119, 2120, 2121, 2122, 2123, 2124, 2125, 2126, 2127, 2128, 2129, 2130, 2131, 2132, 2133, 2134, 2135, 2136, 2137, 2138, 2139, 2140, 2141]
def wsX5_readCube : List Cond := .code yX5_readCube cX5_readCube 3 (some .int) :: pickW idX5_readCube
def idX5_read : List Nat := [5, 207, 267, 268, 269, 270, 582, 583, 584, 585, 586, 587, 588, 589, 590, 591, 592, 593, 594, 595, 2112, 2113, 2114, 2115, 2116, 2117, 2118, 2119, 2120, 2121, 2122, 2123, 2124, 2125, 2126, 2127, 2128, 2129, 2130, 2131, 2132, 2133, 2134, 2135, 2136, 2137, 2138, 2139, 2140, 2141]
def wsX5_read : List Cond := .code yX5_read cX5_read 3 (some .int) :: pickW idX5_read
def idX5_fault : List Nat := [5, 207, 267, 268, 269, 270, 578, 579, 580, 581, 582, 583, 584, 585, 586, 587, 588, 589, 590, 591, 592, 593, 594, 595, 2112, 2113, 2114, 2115, 2116, 2117, 2118, 2119, 2120, 2121, 2122, 2123, 2124, 2125, 2126, 2127, 2128, 2129, 2130, 2131, 2132, 2133, 2134, 2135, 2136, 2137, 2138, 2139, 2140, 2141]
def wsX5_fault : List Cond := .code yX5_fault cX5_fault 1 (some .int) :: pickW idX5_fault
def idX5_tower : List Nat := [5, 201, 202, 207, 267, 268, 269, 270, 579, 580, 581, 582, 583, 584, 585, 586, 587, 588, 589, 590, 591, 592, 593, 594, 595, 661, 662, 663, 704, 705, 2112, 2113, 2114, 2115, 2116, 2117, 2118, 2119, 2120, 2121, 2122, 2123, 2124, 2125, 2126, 2127, 2128, 2129, 2130, 2131, 2132, 2133, 2134, 2135, 2136, 2137, 2138, 2139, 2140, 2141]
def wsX5_tower : List Cond := .code yX5_tower cX5_tower 3 (some .int) :: pickW idX5_tower
def idX5_isCube : List Nat := [5, 268, 269, 270, 662, 777, 2112, 2113, 2114, 2115, 2116, 2117, 2118, 2119, 2120, 2121, 2122, 2123, 2124, 2125, 2126, 2127, 2128, 2129, 2130, 2131, 2132, 2133, 2134, 2135, 2136, 2137, 2138, 2139, 2140, 2141]
def wsX5_isCube : List Cond := .code yX5_isCube cX5_isCube 2 (some .boolean) :: pickW idX5_isCube
def idX5_side : List Nat := [848]
def wsX5_side : List Cond := .code yX5_side cX5_side 2 (some .int) :: pickW idX5_side
def idX5_ring : List Nat := [5, 846, 847, 848, 1029]
def wsX5_ring : List Cond := .code yX5_ring cX5_ring 6 (some .int) :: pickW idX5_ring
def idX5_quarter : List Nat := [5, 846, 847, 848, 1026, 1027, 1028, 1029]
def wsX5_quarter : List Cond := .code yX5_quarter cX5_quarter 2 (some .int) :: pickW idX5_quarter
def idX5_turnsOf : List Nat := [845]
def wsX5_turnsOf : List Cond := .code yX5_turnsOf cX5_turnsOf 1 (some .int) :: pickW idX5_turnsOf
def idX5_turned : List Nat := [5, 846, 847, 848, 983, 1024, 1025, 1026, 1027, 1028, 1029]
def wsX5_turned : List Cond := .code yX5_turned cX5_turned 4 (some .int) :: pickW idX5_turned
def idX5_waysOf : List Nat := [784]
def wsX5_waysOf : List Cond := .code yX5_waysOf cX5_waysOf 1 (some .int) :: pickW idX5_waysOf
def idX5_could : List Nat := [791]
def wsX5_could : List Cond := .code yX5_could cX5_could 2 (some .boolean) :: pickW idX5_could
def idX5_sortsOf : List Nat := [5, 203, 204, 205, 705, 788, 789, 790, 791, 2112, 2113, 2114, 2115, 2116, 2117, 2118, 2119, 2120, 2121, 2122, 2123, 2124, 2125, 2126, 2127, 2128, 2129, 2130, 2131, 2132, 2133, 2134, 2135, 2136, 2137, 2138, 2139, 2140, 2141]
def wsX5_sortsOf : List Cond := .code yX5_sortsOf cX5_sortsOf 6 (some .int) :: pickW idX5_sortsOf
def idX5_askOf : List Nat := [5, 203, 204, 205, 705, 785, 786, 787, 788, 789, 790, 791, 835, 836, 837, 838, 839, 840, 841, 842, 2112, 2113, 2114, 2115, 2116, 2117, 2118, 2119, 2120, 2121, 2122, 2123, 2124, 2125, 2126, 2127, 2128, 2129, 2130, 2131, 2132, 2133, 2134, 2135, 2136, 2137, 2138, 2139, 2140, 2141]
def wsX5_askOf : List Cond := .code yX5_askOf cX5_askOf 9 (some .int) :: pickW idX5_askOf
def idX5_cubeNow : List Nat := [5, 201, 202, 203, 204, 205, 705, 781, 782, 783, 784, 785, 786, 787, 788, 789, 790, 791, 832, 833, 834, 835, 836, 837, 838, 839, 840, 841, 842, 843, 844, 845, 846, 847, 848, 2112, 2113, 2114, 2115, 2116, 2117, 2118, 2119, 2120, 2121, 2122, 2123, 2124, 2125, 2126, 2127, 2128, 2129, 2130, 2131, 2132, 2133, 2134, 2135, 2136, 2137, 2138, 2139, 2140, 2141]
def wsX5_cubeNow : List Cond := .code yX5_cubeNow cX5_cubeNow 3 (some .int) :: pickW idX5_cubeNow
def idX5_cube : List Nat := [5, 201, 202, 203, 204, 205, 268, 269, 270, 662, 705, 773, 774, 775, 776, 777, 778, 779, 780, 781, 782, 783, 784, 785, 786, 787, 788, 789, 790, 791, 832, 833, 834, 835, 836, 837, 838, 839, 840, 841, 842, 843, 844, 845, 846, 847, 848, 2112, 2113, 2114, 2115, 2116, 2117, 2118, 2119, 2120, 2121, 2122, 2123, 2124, 2125, 2126, 2127, 2128, 2129, 2130, 2131, 2132, 2133, 2134, 2135, 2136, 2137, 2138, 2139, 2140, 2141]
def wsX5_cube : List Cond := .code yX5_cube cX5_cube 3 (some .int) :: pickW idX5_cube
def idX5_as : List Nat := [5, 201, 268, 269, 270, 662, 774, 775, 776, 777, 897, 2112, 2113, 2114, 2115, 2116, 2117, 2118, 2119, 2120, 2121, 2122, 2123, 2124, 2125, 2126, 2127, 2128, 2129, 2130, 2131, 2132, 2133, 2134, 2135, 2136, 2137, 2138, 2139, 2140, 2141]
def wsX5_as : List Cond := .code yX5_as cX5_as 4 (some .int) :: pickW idX5_as
def idX5_same : List Nat := [5, 846, 847, 848, 961]
def wsX5_same : List Cond := .code yX5_same cX5_same 3 (some .int) :: pickW idX5_same
def idX5_clashesOn : List Nat := [5, 662, 846, 847, 848, 918, 919, 960, 961, 2112, 2113, 2114, 2115, 2116, 2117, 2118, 2119, 2120, 2121, 2122, 2123, 2124, 2125, 2126, 2127, 2128, 2129, 2130, 2131, 2132, 2133, 2134, 2135, 2136, 2137, 2138, 2139, 2140, 2141]
def wsX5_clashesOn : List Cond := .code yX5_clashesOn cX5_clashesOn 5 (some .int) :: pickW idX5_clashesOn
def idX5_clashesOf : List Nat := [5, 662, 846, 847, 848, 915, 916, 917, 918, 919, 960, 961, 1037, 2112, 2113, 2114, 2115, 2116, 2117, 2118, 2119, 2120, 2121, 2122, 2123, 2124, 2125, 2126, 2127, 2128, 2129, 2130, 2131, 2132, 2133, 2134, 2135, 2136, 2137, 2138, 2139, 2140, 2141]
def wsX5_clashesOf : List Cond := .code yX5_clashesOf cX5_clashesOf 6 (some .int) :: pickW idX5_clashesOf
def idX5_clashes : List Nat := [5, 202, 662, 846, 847, 848, 915, 916, 917, 918, 919, 960, 961, 1033, 1034, 1035, 1036, 1037, 2112, 2113, 2114, 2115, 2116, 2117, 2118, 2119, 2120, 2121, 2122, 2123, 2124, 2125, 2126, 2127, 2128, 2129, 2130, 2131, 2132, 2133, 2134, 2135, 2136, 2137, 2138, 2139, 2140, 2141]
def wsX5_clashes : List Cond := .code yX5_clashes cX5_clashes 1 (some .int) :: pickW idX5_clashes
def idX5_wallNow : List Nat := [5, 202, 662, 846, 847, 848, 914, 915, 916, 917, 918, 919, 960, 961, 2112, 2113, 2114, 2115, 2116, 2117, 2118, 2119, 2120, 2121, 2122, 2123, 2124, 2125, 2126, 2127, 2128, 2129, 2130, 2131, 2132, 2133, 2134, 2135, 2136, 2137, 2138, 2139, 2140, 2141]
def wsX5_wallNow : List Cond := .code yX5_wallNow cX5_wallNow 4 (some .int) :: pickW idX5_wallNow
def idX5_wall : List Nat := [5, 202, 268, 269, 270, 662, 846, 847, 848, 910, 911, 912, 913, 914, 915, 916, 917, 918, 919, 960, 961, 2112, 2113, 2114, 2115, 2116, 2117, 2118, 2119, 2120, 2121, 2122, 2123, 2124, 2125, 2126, 2127, 2128, 2129, 2130, 2131, 2132, 2133, 2134, 2135, 2136, 2137, 2138, 2139, 2140, 2141]
def wsX5_wall : List Cond := .code yX5_wall cX5_wall 3 (some .int) :: pickW idX5_wall
def idX5_turn : List Nat := [5, 201, 202, 268, 269, 270, 662, 663, 774, 775, 776, 777, 837, 838, 839, 843, 844, 845, 846, 847, 848, 915, 916, 917, 918, 919, 960, 961, 980, 981, 982, 983, 1024, 1025, 1026, 1027, 1028, 1029, 1030, 1031, 1032, 1033, 1034, 1035, 1036, 1037, 2112, 2113, 2114, 2115, 2116, 2117, 2118, 2119, 2120, 2121, 2122, 2123, 2124, 2125, 2126, 2127, 2128, 2129, 2130, 2131, 2132, 2133, 2134, 2135, 2136, 2137, 2138, 2139, 2140, 2141]
def wsX5_turn : List Cond := .code yX5_turn cX5_turn 3 (some .int) :: pickW idX5_turn
def idX5_painted : List Nat := [1088]
def wsX5_painted : List Cond := .code yX5_painted cX5_painted 3 (some .int) :: pickW idX5_painted
def idX5_paint : List Nat := [5, 202, 268, 269, 270, 662, 774, 775, 776, 777, 846, 847, 848, 1045, 1046, 1047, 1088, 2112, 2113, 2114, 2115, 2116, 2117, 2118, 2119, 2120, 2121, 2122, 2123, 2124, 2125, 2126, 2127, 2128, 2129, 2130, 2131, 2132, 2133, 2134, 2135, 2136, 2137, 2138, 2139, 2140, 2141]
def wsX5_paint : List Cond := .code yX5_paint cX5_paint 5 (some .int) :: pickW idX5_paint
def idX5_swap : List Nat := [5, 201, 202, 268, 269, 270, 662, 774, 775, 776, 777, 846, 847, 848, 915, 916, 917, 918, 919, 960, 961, 1030, 1031, 1032, 1033, 1034, 1035, 1036, 1037, 1096, 2112, 2113, 2114, 2115, 2116, 2117, 2118, 2119, 2120, 2121, 2122, 2123, 2124, 2125, 2126, 2127, 2128, 2129, 2130, 2131, 2132, 2133, 2134, 2135, 2136, 2137, 2138, 2139, 2140, 2141]
def wsX5_swap : List Cond := .code yX5_swap cX5_swap 5 (some .int) :: pickW idX5_swap
def idX5_be : List Nat := [5, 201, 268, 269, 270, 662, 774, 775, 776, 777, 1104, 2112, 2113, 2114, 2115, 2116, 2117, 2118, 2119, 2120, 2121, 2122, 2123, 2124, 2125, 2126, 2127, 2128, 2129, 2130, 2131, 2132, 2133, 2134, 2135, 2136, 2137, 2138, 2139, 2140, 2141]
def wsX5_be : List Cond := .code yX5_be cX5_be 4 (some .int) :: pickW idX5_be
def idX5_take : List Nat := [208, 209, 210, 1289, 2112, 2113, 2114, 2115, 2116, 2117, 2118, 2119, 2120, 2121, 2122, 2123, 2124, 2125, 2126, 2127, 2128, 2129, 2130, 2131, 2132, 2133, 2134, 2135, 2136, 2137, 2138, 2139, 2140, 2141]
def wsX5_take : List Cond := .code yX5_take cX5_take 5 none :: pickW idX5_take
def idX5_layWays : List Nat := [5, 201, 208, 209, 210, 837, 838, 839, 843, 844, 845, 846, 847, 848, 981, 982, 983, 1024, 1025, 1026, 1027, 1028, 1029, 1285, 1286, 1287, 1288, 1289, 2112, 2113, 2114, 2115, 2116, 2117, 2118, 2119, 2120, 2121, 2122, 2123, 2124, 2125, 2126, 2127, 2128, 2129, 2130, 2131, 2132, 2133, 2134, 2135, 2136, 2137, 2138, 2139, 2140, 2141]
def wsX5_layWays : List Cond := .code yX5_layWays cX5_layWays 5 none :: pickW idX5_layWays
def idX5_laid : List Nat := [5, 846, 847, 848, 1296]
def wsX5_laid : List Cond := .code yX5_laid cX5_laid 4 (some .int) :: pickW idX5_laid
def idX5_layColours : List Nat := [5, 202, 208, 210, 211, 846, 847, 848, 1293, 1294, 1295, 1296, 2112, 2113, 2114, 2115, 2116, 2117, 2118, 2119, 2120, 2121, 2122, 2123, 2124, 2125, 2126, 2127, 2128, 2129, 2130, 2131, 2132, 2133, 2134, 2135, 2136, 2137, 2138, 2139, 2140, 2141]
def wsX5_layColours : List Cond := .code yX5_layColours cX5_layColours 3 none :: pickW idX5_layColours
def idX5_layAll : List Nat := [5, 201, 202, 208, 209, 210, 211, 662, 837, 838, 839, 843, 844, 845, 846, 847, 848, 981, 982, 983, 1024, 1025, 1026, 1027, 1028, 1029, 1280, 1281, 1282, 1283, 1284, 1285, 1286, 1287, 1288, 1289, 1290, 1291, 1292, 1293, 1294, 1295, 1296, 2112, 2113, 2114, 2115, 2116, 2117, 2118, 2119, 2120, 2121, 2122, 2123, 2124, 2125, 2126, 2127, 2128, 2129, 2130, 2131, 2132, 2133, 2134, 2135, 2136, 2137, 2138, 2139, 2140, 2141]
def wsX5_layAll : List Cond := .code yX5_layAll cX5_layAll 2 none :: pickW idX5_layAll
def idX5_all : List Nat := [210, 662, 1344, 2112, 2113, 2114, 2115, 2116, 2117, 2118, 2119, 2120, 2121, 2122, 2123, 2124, 2125, 2126, 2127, 2128, 2129, 2130, 2131, 2132, 2133, 2134, 2135, 2136, 2137, 2138, 2139, 2140, 2141]
def wsX5_all : List Cond := .code yX5_all cX5_all 3 (some .int) :: pickW idX5_all
def idX5_first : List Nat := [210, 1352, 2112, 2113, 2114, 2115, 2116, 2117, 2118, 2119, 2120, 2121, 2122, 2123, 2124, 2125, 2126, 2127, 2128, 2129, 2130, 2131, 2132, 2133, 2134, 2135, 2136, 2137, 2138, 2139, 2140, 2141]
def wsX5_first : List Cond := .code yX5_first cX5_first 2 (some .int) :: pickW idX5_first
def idX5_second : List Nat := [210, 1356, 2112, 2113, 2114, 2115, 2116, 2117, 2118, 2119, 2120, 2121, 2122, 2123, 2124, 2125, 2126, 2127, 2128, 2129, 2130, 2131, 2132, 2133, 2134, 2135, 2136, 2137, 2138, 2139, 2140, 2141]
def wsX5_second : List Cond := .code yX5_second cX5_second 2 (some .int) :: pickW idX5_second
def idX5_third : List Nat := [210, 1360, 2112, 2113, 2114, 2115, 2116, 2117, 2118, 2119, 2120, 2121, 2122, 2123, 2124, 2125, 2126, 2127, 2128, 2129, 2130, 2131, 2132, 2133, 2134, 2135, 2136, 2137, 2138, 2139, 2140, 2141]
def wsX5_third : List Cond := .code yX5_third cX5_third 2 (some .int) :: pickW idX5_third
def idX5_clashesBy : List Nat := [5, 210, 211, 662, 846, 847, 848, 915, 916, 917, 918, 919, 960, 961, 1034, 1035, 1036, 1037, 1348, 1349, 1350, 1351, 1352, 1353, 1354, 1355, 1356, 1357, 1358, 1359, 1360, 2112, 2113, 2114, 2115, 2116, 2117, 2118, 2119, 2120, 2121, 2122, 2123, 2124, 2125, 2126, 2127, 2128, 2129, 2130, 2131, 2132, 2133, 2134, 2135, 2136, 2137, 2138, 2139, 2140, 2141]
def wsX5_clashesBy : List Cond := .code yX5_clashesBy cX5_clashesBy 2 (some .int) :: pickW idX5_clashesBy
def idX5_solutions : List Nat := [5, 210, 211, 662, 846, 847, 848, 915, 916, 917, 918, 919, 960, 961, 1034, 1035, 1036, 1037, 1300, 1301, 1302, 1303, 1344, 1345, 1346, 1347, 1348, 1349, 1350, 1351, 1352, 1353, 1354, 1355, 1356, 1357, 1358, 1359, 1360, 2112, 2113, 2114, 2115, 2116, 2117, 2118, 2119, 2120, 2121, 2122, 2123, 2124, 2125, 2126, 2127, 2128, 2129, 2130, 2131, 2132, 2133, 2134, 2135, 2136, 2137, 2138, 2139, 2140, 2141]
def wsX5_solutions : List Cond := .code yX5_solutions cX5_solutions 3 (some .int) :: pickW idX5_solutions
def idX5_leastClashes : List Nat := [5, 210, 211, 662, 836, 846, 847, 848, 915, 916, 917, 918, 919, 960, 961, 1034, 1035, 1036, 1037, 1301, 1302, 1303, 1344, 1345, 1346, 1347, 1348, 1349, 1350, 1351, 1352, 1353, 1354, 1355, 1356, 1357, 1358, 1359, 1360, 1364, 2112, 2113, 2114, 2115, 2116, 2117, 2118, 2119, 2120, 2121, 2122, 2123, 2124, 2125, 2126, 2127, 2128, 2129, 2130, 2131, 2132, 2133, 2134, 2135, 2136, 2137, 2138, 2139, 2140, 2141]
def wsX5_leastClashes : List Cond := .code yX5_leastClashes cX5_leastClashes 3 (some .int) :: pickW idX5_leastClashes
def idX5_waysNow : List Nat := [5, 201, 202, 208, 209, 210, 211, 662, 836, 837, 838, 839, 843, 844, 845, 846, 847, 848, 915, 916, 917, 918, 919, 960, 961, 981, 982, 983, 1024, 1025, 1026, 1027, 1028, 1029, 1034, 1035, 1036, 1037, 1236, 1237, 1238, 1239, 1280, 1281, 1282, 1283, 1284, 1285, 1286, 1287, 1288, 1289, 1290, 1291, 1292, 1293, 1294, 1295, 1296, 1297, 1298, 1299, 1300, 1301, 1302, 1303, 1344, 1345, 1346, 1347, 1348, 1349, 1350, 1351, 1352, 1353, 1354, 1355, 1356, 1357, 1358, 1359, 1360, 1361, 1362, 1363, 1364, 2112, 2113, 2114, 2115, 2116, 2117, 2118, 2119, 2120, 2121, 2122, 2123, 2124, 2125, 2126, 2127, 2128, 2129, 2130, 2131, 2132, 2133, 2134, 2135, 2136, 2137, 2138, 2139, 2140, 2141]
def wsX5_waysNow : List Cond := .code yX5_waysNow cX5_waysNow 2 (some .int) :: pickW idX5_waysNow
def idX5_ways : List Nat := [5, 201, 202, 208, 209, 210, 211, 268, 269, 270, 662, 836, 837, 838, 839, 843, 844, 845, 846, 847, 848, 915, 916, 917, 918, 919, 960, 961, 981, 982, 983, 1024, 1025, 1026, 1027, 1028, 1029, 1034, 1035, 1036, 1037, 1232, 1233, 1234, 1235, 1236, 1237, 1238, 1239, 1280, 1281, 1282, 1283, 1284, 1285, 1286, 1287, 1288, 1289, 1290, 1291, 1292, 1293, 1294, 1295, 1296, 1297, 1298, 1299, 1300, 1301, 1302, 1303, 1344, 1345, 1346, 1347, 1348, 1349, 1350, 1351, 1352, 1353, 1354, 1355, 1356, 1357, 1358, 1359, 1360, 1361, 1362, 1363, 1364, 2112, 2113, 2114, 2115, 2116, 2117, 2118, 2119, 2120, 2121, 2122, 2123, 2124, 2125, 2126, 2127, 2128, 2129, 2130, 2131, 2132, 2133, 2134, 2135, 2136, 2137, 2138, 2139, 2140, 2141]
def wsX5_ways : List Cond := .code yX5_ways cX5_ways 2 (some .int) :: pickW idX5_ways
def idX5_farBy : List Nat := [5, 209, 210, 662, 1349, 1350, 1351, 1352, 1353, 1354, 1355, 1356, 1357, 1358, 1359, 1360, 1473, 2112, 2113, 2114, 2115, 2116, 2117, 2118, 2119, 2120, 2121, 2122, 2123, 2124, 2125, 2126, 2127, 2128, 2129, 2130, 2131, 2132, 2133, 2134, 2135, 2136, 2137, 2138, 2139, 2140, 2141]
def wsX5_farBy : List Cond := .code yX5_farBy cX5_farBy 2 (some .int) :: pickW idX5_farBy
def idX5_fewestTurns : List Nat := [5, 209, 210, 211, 662, 836, 846, 847, 848, 915, 916, 917, 918, 919, 960, 961, 1034, 1035, 1036, 1037, 1301, 1302, 1303, 1344, 1345, 1346, 1347, 1348, 1349, 1350, 1351, 1352, 1353, 1354, 1355, 1356, 1357, 1358, 1359, 1360, 1429, 1430, 1431, 1472, 1473, 2112, 2113, 2114, 2115, 2116, 2117, 2118, 2119, 2120, 2121, 2122, 2123, 2124, 2125, 2126, 2127, 2128, 2129, 2130, 2131, 2132, 2133, 2134, 2135, 2136, 2137, 2138, 2139, 2140, 2141]
def wsX5_fewestTurns : List Cond := .code yX5_fewestTurns cX5_fewestTurns 3 (some .int) :: pickW idX5_fewestTurns
def idX5_firstTurn : List Nat := [5, 201, 202, 208, 209, 210, 211, 662, 836, 837, 838, 839, 843, 844, 845, 846, 847, 848, 915, 916, 917, 918, 919, 960, 961, 981, 982, 983, 1024, 1025, 1026, 1027, 1028, 1029, 1034, 1035, 1036, 1037, 1281, 1282, 1283, 1284, 1285, 1286, 1287, 1288, 1289, 1290, 1291, 1292, 1293, 1294, 1295, 1296, 1301, 1302, 1303, 1344, 1345, 1346, 1347, 1348, 1349, 1350, 1351, 1352, 1353, 1354, 1355, 1356, 1357, 1358, 1359, 1360, 1426, 1427, 1428, 1429, 1430, 1431, 1472, 1473, 1477, 2112, 2113, 2114, 2115, 2116, 2117, 2118, 2119, 2120, 2121, 2122, 2123, 2124, 2125, 2126, 2127, 2128, 2129, 2130, 2131, 2132, 2133, 2134, 2135, 2136, 2137, 2138, 2139, 2140, 2141]
def wsX5_firstTurn : List Cond := .code yX5_firstTurn cX5_firstTurn 5 (some .int) :: pickW idX5_firstTurn
def idX5_turningNow : List Nat := [5, 201, 202, 208, 209, 210, 211, 662, 836, 837, 838, 839, 843, 844, 845, 846, 847, 848, 915, 916, 917, 918, 919, 960, 961, 981, 982, 983, 1024, 1025, 1026, 1027, 1028, 1029, 1034, 1035, 1036, 1037, 1237, 1238, 1239, 1280, 1281, 1282, 1283, 1284, 1285, 1286, 1287, 1288, 1289, 1290, 1291, 1292, 1293, 1294, 1295, 1296, 1301, 1302, 1303, 1344, 1345, 1346, 1347, 1348, 1349, 1350, 1351, 1352, 1353, 1354, 1355, 1356, 1357, 1358, 1359, 1360, 1425, 1426, 1427, 1428, 1429, 1430, 1431, 1472, 1473, 1474, 1475, 1476, 1477, 2112, 2113, 2114, 2115, 2116, 2117, 2118, 2119, 2120, 2121, 2122, 2123, 2124, 2125, 2126, 2127, 2128, 2129, 2130, 2131, 2132, 2133, 2134, 2135, 2136, 2137, 2138, 2139, 2140, 2141]
def wsX5_turningNow : List Cond := .code yX5_turningNow cX5_turningNow 3 (some .int) :: pickW idX5_turningNow
def idX5_turning : List Nat := [5, 201, 202, 208, 209, 210, 211, 268, 269, 270, 662, 836, 837, 838, 839, 843, 844, 845, 846, 847, 848, 915, 916, 917, 918, 919, 960, 961, 981, 982, 983, 1024, 1025, 1026, 1027, 1028, 1029, 1034, 1035, 1036, 1037, 1237, 1238, 1239, 1280, 1281, 1282, 1283, 1284, 1285, 1286, 1287, 1288, 1289, 1290, 1291, 1292, 1293, 1294, 1295, 1296, 1301, 1302, 1303, 1344, 1345, 1346, 1347, 1348, 1349, 1350, 1351, 1352, 1353, 1354, 1355, 1356, 1357, 1358, 1359, 1360, 1421, 1422, 1423, 1424, 1425, 1426, 1427, 1428, 1429, 1430, 1431, 1472, 1473, 1474, 1475, 1476, 1477, 2112, 2113, 2114, 2115, 2116, 2117, 2118, 2119, 2120, 2121, 2122, 2123, 2124, 2125, 2126, 2127, 2128, 2129, 2130, 2131, 2132, 2133, 2134, 2135, 2136, 2137, 2138, 2139, 2140, 2141]
def wsX5_turning : List Cond := .code yX5_turning cX5_turning 2 (some .int) :: pickW idX5_turning
def idX5_isBy : List Nat := [5, 202, 208, 210, 211, 662, 846, 847, 848, 915, 916, 917, 918, 919, 960, 961, 1034, 1035, 1036, 1037, 1046, 1047, 1088, 1290, 1291, 1292, 1293, 1294, 1295, 1296, 1297, 1298, 1299, 1300, 1301, 1302, 1303, 1344, 1345, 1346, 1347, 1348, 1349, 1350, 1351, 1352, 1353, 1354, 1355, 1356, 1357, 1358, 1359, 1360, 1556, 2112, 2113, 2114, 2115, 2116, 2117, 2118, 2119, 2120, 2121, 2122, 2123, 2124, 2125, 2126, 2127, 2128, 2129, 2130, 2131, 2132, 2133, 2134, 2135, 2136, 2137, 2138, 2139, 2140, 2141]
def wsX5_isBy : List Cond := .code yX5_isBy cX5_isBy 6 (some .boolean) :: pickW idX5_isBy
def idX5_repaintNow : List Nat := [5, 201, 202, 208, 209, 210, 211, 662, 837, 838, 839, 843, 844, 845, 846, 847, 848, 915, 916, 917, 918, 919, 960, 961, 981, 982, 983, 1024, 1025, 1026, 1027, 1028, 1029, 1034, 1035, 1036, 1037, 1046, 1047, 1088, 1237, 1238, 1239, 1280, 1281, 1282, 1283, 1284, 1285, 1286, 1287, 1288, 1289, 1290, 1291, 1292, 1293, 1294, 1295, 1296, 1297, 1298, 1299, 1300, 1301, 1302, 1303, 1344, 1345, 1346, 1347, 1348, 1349, 1350, 1351, 1352, 1353, 1354, 1355, 1356, 1357, 1358, 1359, 1360, 1552, 1553, 1554, 1555, 1556, 2112, 2113, 2114, 2115, 2116, 2117, 2118, 2119, 2120, 2121, 2122, 2123, 2124, 2125, 2126, 2127, 2128, 2129, 2130, 2131, 2132, 2133, 2134, 2135, 2136, 2137, 2138, 2139, 2140, 2141]
def wsX5_repaintNow : List Cond := .code yX5_repaintNow cX5_repaintNow 5 (some .int) :: pickW idX5_repaintNow
def idX5_repaint : List Nat := [5, 201, 202, 208, 209, 210, 211, 662, 837, 838, 839, 843, 844, 845, 846, 847, 848, 915, 916, 917, 918, 919, 960, 961, 981, 982, 983, 1024, 1025, 1026, 1027, 1028, 1029, 1034, 1035, 1036, 1037, 1046, 1047, 1088, 1237, 1238, 1239, 1280, 1281, 1282, 1283, 1284, 1285, 1286, 1287, 1288, 1289, 1290, 1291, 1292, 1293, 1294, 1295, 1296, 1297, 1298, 1299, 1300, 1301, 1302, 1303, 1344, 1345, 1346, 1347, 1348, 1349, 1350, 1351, 1352, 1353, 1354, 1355, 1356, 1357, 1358, 1359, 1360, 1547, 1548, 1549, 1550, 1551, 1552, 1553, 1554, 1555, 1556, 2112, 2113, 2114, 2115, 2116, 2117, 2118, 2119, 2120, 2121, 2122, 2123, 2124, 2125, 2126, 2127, 2128, 2129, 2130, 2131, 2132, 2133, 2134, 2135, 2136, 2137, 2138, 2139, 2140, 2141]
def wsX5_repaint : List Cond := .code yX5_repaint cX5_repaint 1 (some .int) :: pickW idX5_repaint
def idX5_oddsNow : List Nat := [5, 201, 202, 208, 209, 210, 211, 662, 837, 838, 839, 843, 844, 845, 846, 847, 848, 915, 916, 917, 918, 919, 960, 961, 981, 982, 983, 1024, 1025, 1026, 1027, 1028, 1029, 1034, 1035, 1036, 1037, 1237, 1238, 1239, 1280, 1281, 1282, 1283, 1284, 1285, 1286, 1287, 1288, 1289, 1290, 1291, 1292, 1293, 1294, 1295, 1296, 1297, 1298, 1299, 1300, 1301, 1302, 1303, 1344, 1345, 1346, 1347, 1348, 1349, 1350, 1351, 1352, 1353, 1354, 1355, 1356, 1357, 1358, 1359, 1360, 1615, 1616, 1617, 1618, 2112, 2113, 2114, 2115, 2116, 2117, 2118, 2119, 2120, 2121, 2122, 2123, 2124, 2125, 2126, 2127, 2128, 2129, 2130, 2131, 2132, 2133, 2134, 2135, 2136, 2137, 2138, 2139, 2140, 2141]
def wsX5_oddsNow : List Cond := .code yX5_oddsNow cX5_oddsNow 4 (some .int) :: pickW idX5_oddsNow
def idX5_odds : List Nat := [5, 201, 202, 208, 209, 210, 211, 268, 269, 270, 662, 837, 838, 839, 843, 844, 845, 846, 847, 848, 915, 916, 917, 918, 919, 960, 961, 981, 982, 983, 1024, 1025, 1026, 1027, 1028, 1029, 1034, 1035, 1036, 1037, 1237, 1238, 1239, 1280, 1281, 1282, 1283, 1284, 1285, 1286, 1287, 1288, 1289, 1290, 1291, 1292, 1293, 1294, 1295, 1296, 1297, 1298, 1299, 1300, 1301, 1302, 1303, 1344, 1345, 1346, 1347, 1348, 1349, 1350, 1351, 1352, 1353, 1354, 1355, 1356, 1357, 1358, 1359, 1360, 1611, 1612, 1613, 1614, 1615, 1616, 1617, 1618, 2112, 2113, 2114, 2115, 2116, 2117, 2118, 2119, 2120, 2121, 2122, 2123, 2124, 2125, 2126, 2127, 2128, 2129, 2130, 2131, 2132, 2133, 2134, 2135, 2136, 2137, 2138, 2139, 2140, 2141]
def wsX5_odds : List Cond := .code yX5_odds cX5_odds 2 (some .int) :: pickW idX5_odds
def idX5_see : List Nat := [5, 203, 204, 205, 268, 269, 270, 662, 705, 774, 775, 776, 777, 1667, 2112, 2113, 2114, 2115, 2116, 2117, 2118, 2119, 2120, 2121, 2122, 2123, 2124, 2125, 2126, 2127, 2128, 2129, 2130, 2131, 2132, 2133, 2134, 2135, 2136, 2137, 2138, 2139, 2140, 2141]
def wsX5_see : List Cond := .code yX5_see cX5_see 4 (some .int) :: pickW idX5_see
def idX5_forget : List Nat := [705, 1675, 2112, 2113, 2114, 2115, 2116, 2117, 2118, 2119, 2120, 2121, 2122, 2123, 2124, 2125, 2126, 2127, 2128, 2129, 2130, 2131, 2132, 2133, 2134, 2135, 2136, 2137, 2138, 2139, 2140, 2141]
def wsX5_forget : List Cond := .code yX5_forget cX5_forget 2 (some .int) :: pickW idX5_forget
def idX5_draw : List Nat := [1748, 1792, 1793, 1794, 1795, 1796, 2112, 2113, 2114, 2115, 2116, 2117, 2118, 2119, 2120, 2121, 2122, 2123, 2124, 2125, 2126, 2127, 2128, 2129, 2130, 2131, 2132, 2133, 2134, 2135, 2136, 2137, 2138, 2139, 2140, 2141]
def wsX5_draw : List Cond := .code yX5_draw cX5_draw 2 (some .int) :: pickW idX5_draw
def idX5_runsNow : List Nat := [5, 201, 202, 212, 662, 837, 838, 839, 843, 844, 845, 846, 847, 848, 915, 916, 917, 918, 919, 960, 961, 981, 982, 983, 1024, 1025, 1026, 1027, 1028, 1029, 1034, 1035, 1036, 1037, 1747, 1748, 1749, 1750, 1751, 1792, 1793, 1794, 1795, 1796, 2112, 2113, 2114, 2115, 2116, 2117, 2118, 2119, 2120, 2121, 2122, 2123, 2124, 2125, 2126, 2127, 2128, 2129, 2130, 2131, 2132, 2133, 2134, 2135, 2136, 2137, 2138, 2139, 2140, 2141]
def wsX5_runsNow : List Cond := .code yX5_runsNow cX5_runsNow 8 (some .int) :: pickW idX5_runsNow
def idX5_runs : List Nat := [5, 201, 202, 212, 268, 269, 270, 662, 837, 838, 839, 843, 844, 845, 846, 847, 848, 915, 916, 917, 918, 919, 960, 961, 981, 982, 983, 1024, 1025, 1026, 1027, 1028, 1029, 1034, 1035, 1036, 1037, 1743, 1744, 1745, 1746, 1747, 1748, 1749, 1750, 1751, 1792, 1793, 1794, 1795, 1796, 2112, 2113, 2114, 2115, 2116, 2117, 2118, 2119, 2120, 2121, 2122, 2123, 2124, 2125, 2126, 2127, 2128, 2129, 2130, 2131, 2132, 2133, 2134, 2135, 2136, 2137, 2138, 2139, 2140, 2141]
def wsX5_runs : List Cond := .code yX5_runs cX5_runs 4 (some .int) :: pickW idX5_runs
def idX5_image : List Nat := [201, 202, 203, 204, 205, 213, 214, 215, 256, 257, 662, 663, 704, 705, 1804, 1805, 1806, 1807, 1808, 2112, 2113, 2114, 2115, 2116, 2117, 2118, 2119, 2120, 2121, 2122, 2123, 2124, 2125, 2126, 2127, 2128, 2129, 2130, 2131, 2132, 2133, 2134, 2135, 2136, 2137, 2138, 2139, 2140, 2141]
def wsX5_image : List Cond := .code yX5_image cX5_image 2 (some .int) :: pickW idX5_image
def idX5_restore : List Nat := [201, 202, 203, 204, 205, 213, 214, 215, 256, 257, 663, 704, 705, 1805, 1806, 1807, 1808, 1856, 2112, 2113, 2114, 2115, 2116, 2117, 2118, 2119, 2120, 2121, 2122, 2123, 2124, 2125, 2126, 2127, 2128, 2129, 2130, 2131, 2132, 2133, 2134, 2135, 2136, 2137, 2138, 2139, 2140, 2141]
def wsX5_restore : List Cond := .code yX5_restore cX5_restore 2 (some .int) :: pickW idX5_restore
def idX5_colours : List Nat := [5, 202, 662, 840, 841, 842, 846, 847, 848, 1925, 2112, 2113, 2114, 2115, 2116, 2117, 2118, 2119, 2120, 2121, 2122, 2123, 2124, 2125, 2126, 2127, 2128, 2129, 2130, 2131, 2132, 2133, 2134, 2135, 2136, 2137, 2138, 2139, 2140, 2141]
def wsX5_colours : List Cond := .code yX5_colours cX5_colours 4 (some .int) :: pickW idX5_colours
def idX5_goodWalls : List Nat := [5, 202, 662, 846, 847, 848, 911, 912, 913, 914, 915, 916, 917, 918, 919, 960, 961, 1921, 2112, 2113, 2114, 2115, 2116, 2117, 2118, 2119, 2120, 2121, 2122, 2123, 2124, 2125, 2126, 2127, 2128, 2129, 2130, 2131, 2132, 2133, 2134, 2135, 2136, 2137, 2138, 2139, 2140, 2141]
def wsX5_goodWalls : List Cond := .code yX5_goodWalls cX5_goodWalls 3 (some .int) :: pickW idX5_goodWalls
def idX5_howMany : List Nat := [5, 202, 267, 662, 663, 704, 705, 840, 841, 842, 846, 847, 848, 911, 912, 913, 914, 915, 916, 917, 918, 919, 960, 961, 1030, 1031, 1032, 1033, 1034, 1035, 1036, 1037, 1548, 1877, 1878, 1879, 1920, 1921, 1922, 1923, 1924, 1925, 2112, 2113, 2114, 2115, 2116, 2117, 2118, 2119, 2120, 2121, 2122, 2123, 2124, 2125, 2126, 2127, 2128, 2129, 2130, 2131, 2132, 2133, 2134, 2135, 2136, 2137, 2138, 2139, 2140, 2141]
def wsX5_howMany : List Cond := .code yX5_howMany cX5_howMany 2 (some .int) :: pickW idX5_howMany
def idX5_count : List Nat := [5, 202, 267, 662, 663, 704, 705, 840, 841, 842, 846, 847, 848, 911, 912, 913, 914, 915, 916, 917, 918, 919, 960, 961, 1030, 1031, 1032, 1033, 1034, 1035, 1036, 1037, 1548, 1873, 1874, 1875, 1876, 1877, 1878, 1879, 1920, 1921, 1922, 1923, 1924, 1925, 2112, 2113, 2114, 2115, 2116, 2117, 2118, 2119, 2120, 2121, 2122, 2123, 2124, 2125, 2126, 2127, 2128, 2129, 2130, 2131, 2132, 2133, 2134, 2135, 2136, 2137, 2138, 2139, 2140, 2141]
def wsX5_count : List Cond := .code yX5_count cX5_count 2 (some .int) :: pickW idX5_count
def idX5_mix : List Nat := [1991, 1995, 1996, 2112, 2113, 2114, 2115, 2116, 2117, 2118, 2119, 2120, 2121, 2122, 2123, 2124, 2125, 2126, 2127, 2128, 2129, 2130, 2131, 2132, 2133, 2134, 2135, 2136, 2137, 2138, 2139, 2140, 2141]
def wsX5_mix : List Cond := .code yX5_mix cX5_mix 3 none :: pickW idX5_mix
def idX5_mixTower : List Nat := [5, 201, 202, 208, 209, 210, 211, 662, 836, 837, 838, 839, 843, 844, 845, 846, 847, 848, 911, 912, 913, 914, 915, 916, 917, 918, 919, 960, 961, 981, 982, 983, 1024, 1025, 1026, 1027, 1028, 1029, 1034, 1035, 1036, 1037, 1233, 1234, 1235, 1236, 1237, 1238, 1239, 1280, 1281, 1282, 1283, 1284, 1285, 1286, 1287, 1288, 1289, 1290, 1291, 1292, 1293, 1294, 1295, 1296, 1297, 1298, 1299, 1300, 1301, 1302, 1303, 1344, 1345, 1346, 1347, 1348, 1349, 1350, 1351, 1352, 1353, 1354, 1355, 1356, 1357, 1358, 1359, 1360, 1361, 1362, 1363, 1364, 1422, 1423, 1424, 1425, 1426, 1427, 1428, 1429, 1430, 1431, 1472, 1473, 1474, 1475, 1476, 1477, 1612, 1613, 1614, 1615, 1616, 1617, 1618, 1991, 1992, 1993, 1994, 1995, 1996, 2000, 2112, 2113, 2114, 2115, 2116, 2117, 2118, 2119, 2120, 2121, 2122, 2123, 2124, 2125, 2126, 2127, 2128, 2129, 2130, 2131, 2132, 2133, 2134, 2135, 2136, 2137, 2138, 2139, 2140, 2141]
def wsX5_mixTower : List Cond := .code yX5_mixTower cX5_mixTower 2 none :: pickW idX5_mixTower
def idX5_digest : List Nat := [5, 201, 202, 203, 204, 205, 207, 208, 209, 210, 211, 267, 662, 663, 704, 705, 778, 779, 780, 781, 782, 783, 784, 785, 786, 787, 788, 789, 790, 791, 832, 833, 834, 835, 836, 837, 838, 839, 840, 841, 842, 843, 844, 845, 846, 847, 848, 911, 912, 913, 914, 915, 916, 917, 918, 919, 960, 961, 981, 982, 983, 1024, 1025, 1026, 1027, 1028, 1029, 1030, 1031, 1032, 1033, 1034, 1035, 1036, 1037, 1233, 1234, 1235, 1236, 1237, 1238, 1239, 1280, 1281, 1282, 1283, 1284, 1285, 1286, 1287, 1288, 1289, 1290, 1291, 1292, 1293, 1294, 1295, 1296, 1297, 1298, 1299, 1300, 1301, 1302, 1303, 1344, 1345, 1346, 1347, 1348, 1349, 1350, 1351, 1352, 1353, 1354, 1355, 1356, 1357, 1358, 1359, 1360, 1361, 1362, 1363, 1364, 1422, 1423, 1424, 1425, 1426, 1427, 1428, 1429, 1430, 1431, 1472, 1473, 1474, 1475, 1476, 1477, 1548, 1612, 1613, 1614, 1615, 1616, 1617, 1618, 1874, 1875, 1876, 1877, 1878, 1879, 1920, 1921, 1922, 1923, 1924, 1925, 1989, 1990, 1991, 1992, 1993, 1994, 1995, 1996, 1997, 1998, 1999, 2000, 2112, 2113, 2114, 2115, 2116, 2117, 2118, 2119, 2120, 2121, 2122, 2123, 2124, 2125, 2126, 2127, 2128, 2129, 2130, 2131, 2132, 2133, 2134, 2135, 2136, 2137, 2138, 2139, 2140, 2141]
def wsX5_digest : List Cond := .code yX5_digest cX5_digest 3 (some .long) :: pickW idX5_digest
def idL_law : List Nat := [0, 1, 2, 3, 4, 5, 6, 7, 8, 9, 10, 11, 12, 13, 14, 15, 16, 17, 18, 19, 20, 21, 22, 23, 64, 65, 66, 67, 68, 69, 70, 71, 72, 73, 74, 75, 76, 77, 78, 79, 80, 81, 82, 83, 84, 85, 86, 87, 128, 129, 130, 131, 132, 133, 134, 135, 136, 137, 138, 139, 140, 141, 142, 143, 144, 145, 146, 147, 148, 149, 150, 151, 192, 193, 194, 195, 196, 197, 198, 199, 200, 201, 202, 203, 204, 205, 206, 207, 208, 209, 210, 211, 212, 213, 214, 215, 256, 257, 258, 259, 260, 261, 262, 263, 264, 265, 266, 267, 268, 269, 270, 271, 272, 273, 274, 275, 276, 277, 278, 279, 320, 321, 322, 323, 324, 325, 326, 327, 328, 329, 330, 331, 332, 333, 334, 335, 336, 337, 338, 339, 340, 341, 342, 343, 384, 385, 386, 387, 388, 389, 390, 391, 392, 393, 394, 395, 396, 397, 398, 399, 400, 401, 402, 403, 404, 405, 406, 407, 448, 449, 450, 451, 452, 453, 454, 455, 456, 457, 458, 459, 460, 461, 462, 463, 464, 465, 466, 467, 468, 469, 470, 471, 512, 513, 514, 515, 516, 517, 518, 519, 520, 521, 522, 523, 524, 525, 526, 527, 528, 529, 530, 531, 532, 533, 534, 535, 576, 577, 578, 579, 580, 581, 582, 583, 584, 585, 586, 587, 588, 589, 590, 591, 592, 593, 594, 595, 596, 597, 598, 599, 640, 641, 642, 643, 644, 645, 646, 647, 648, 649, 650, 651, 652, 653, 654, 655, 656, 657, 658, 659, 660, 661, 662, 663, 704, 705, 706, 707, 708, 709, 710, 711, 712, 713, 714, 715, 716, 717, 718, 719, 720, 721, 722, 723, 724, 725, 726, 727, 768, 769, 770, 771, 772, 773, 774, 775, 776, 777, 778, 779, 780, 781, 782, 783, 784, 785, 786, 787, 788, 789, 790, 791, 832, 833, 834, 835, 836, 837, 838, 839, 840, 841, 842, 843, 844, 845, 846, 847, 848, 849, 850, 851, 852, 853, 854, 855, 896, 897, 898, 899, 900, 901, 902, 903, 904, 905, 906, 907, 908, 909, 910, 911, 912, 913, 914, 915, 916, 917, 918, 919, 960, 961, 962, 963, 964, 965, 966, 967, 968, 969, 970, 971, 972, 973, 974, 975, 976, 977, 978, 979, 980, 981, 982, 983, 1024, 1025, 1026, 1027, 1028, 1029, 1030, 1031, 1032, 1033, 1034, 1035, 1036, 1037, 1038, 1039, 1040, 1041, 1042, 1043, 1044, 1045, 1046, 1047, 1088, 1089, 1090, 1091, 1092, 1093, 1094, 1095, 1096, 1097, 1098, 1099, 1100, 1101, 1102, 1103, 1104, 1105, 1106, 1107, 1108, 1109, 1110, 1111, 1152, 1153, 1154, 1155, 1156, 1157, 1158, 1159, 1160, 1161, 1162, 1163, 1164, 1165, 1166, 1167, 1168, 1169, 1170, 1171, 1172, 1173, 1174, 1175, 1216, 1217, 1218, 1219, 1220, 1221, 1222, 1223, 1224, 1225, 1226, 1227, 1228, 1229, 1230, 1231, 1232, 1233, 1234, 1235, 1236, 1237, 1238, 1239, 1280, 1281, 1282, 1283, 1284, 1285, 1286, 1287, 1288, 1289, 1290, 1291, 1292, 1293, 1294, 1295, 1296, 1297, 1298, 1299, 1300, 1301, 1302, 1303, 1344, 1345, 1346, 1347, 1348, 1349, 1350, 1351, 1352, 1353, 1354, 1355, 1356, 1357, 1358, 1359, 1360, 1361, 1362, 1363, 1364, 1365, 1366, 1367, 1408, 1409, 1410, 1411, 1412, 1413, 1414, 1415, 1416, 1417, 1418, 1419, 1420, 1421, 1422, 1423, 1424, 1425, 1426, 1427, 1428, 1429, 1430, 1431, 1472, 1473, 1474, 1475, 1476, 1477, 1478, 1479, 1480, 1481, 1482, 1483, 1484, 1485, 1486, 1487, 1488, 1489, 1490, 1491, 1492, 1493, 1494, 1495, 1536, 1537, 1538, 1539, 1540, 1541, 1542, 1543, 1544, 1545, 1546, 1547, 1548, 1549, 1550, 1551, 1552, 1553, 1554, 1555, 1556, 1557, 1558, 1559, 1600, 1601, 1602, 1603, 1604, 1605, 1606, 1607, 1608, 1609, 1610, 1611, 1612, 1613, 1614, 1615, 1616, 1617, 1618, 1619, 1620, 1621, 1622, 1623, 1664, 1665, 1666, 1667, 1668, 1669, 1670, 1671, 1672, 1673, 1674, 1675, 1676, 1677, 1678, 1679, 1680, 1681, 1682, 1683, 1684, 1685, 1686, 1687, 1728, 1729, 1730, 1731, 1732, 1733, 1734, 1735, 1736, 1737, 1738, 1739, 1740, 1741, 1742, 1743, 1744, 1745, 1746, 1747, 1748, 1749, 1750, 1751, 1792, 1793, 1794, 1795, 1796, 1797, 1798, 1799, 1800, 1801, 1802, 1803, 1804, 1805, 1806, 1807, 1808, 1809, 1810, 1811, 1812, 1813, 1814, 1815, 1856, 1857, 1858, 1859, 1860, 1861, 1862, 1863, 1864, 1865, 1866, 1867, 1868, 1869, 1870, 1871, 1872, 1873, 1874, 1875, 1876, 1877, 1878, 1879, 1920, 1921, 1922, 1923, 1924, 1925, 1926, 1927, 1928, 1929, 1930, 1931, 1932, 1933, 1934, 1935, 1936, 1937, 1938, 1939, 1940, 1941, 1942, 1943, 1984, 1985, 1986, 1987, 1988, 1989, 1990, 1991, 1992, 1993, 1994, 1995, 1996, 1997, 1998, 1999, 2000, 2048, 2049, 2050, 2051, 2052, 2053, 2054, 2055, 2056, 2112, 2113, 2114, 2115, 2116, 2117, 2118, 2119, 2120, 2121, 2122, 2123, 2124, 2125, 2126, 2127, 2128, 2129, 2130, 2131, 2132, 2133, 2134, 2135, 2136, 2137, 2138, 2139, 2140, 2141, 2176, 2177, 2178, 2179, 2240, 2241, 2242, 2243, 2244, 2245, 2246, 2247, 2248, 2304, 2305, 2306, 2368, 2369, 2370, 2371]
def wsL_law : List Cond := .arrayClass .int :: pickW idL_law
theorem hdc_J0_checkBoundsBeginEnd_23922 : yJ0_checkBoundsBeginEnd_23922.cls = RJ0 ∧ yJ0_checkBoundsBeginEnd_23922.cls ≠ "java/lang/invoke/MethodHandle" ∧ yJ0_checkBoundsBeginEnd_23922.cls ≠ "java/lang/invoke/VarHandle" ∧ (parseMethodDescriptor yJ0_checkBoundsBeginEnd_23922.desc).map (fun d => d.parameters.length) = some 3 := by decide +kernel
theorem hdc_J0_coder_7d493 : yJ0_coder_7d493.cls = RJ0 ∧ yJ0_coder_7d493.cls ≠ "java/lang/invoke/MethodHandle" ∧ yJ0_coder_7d493.cls ≠ "java/lang/invoke/VarHandle" ∧ (parseMethodDescriptor yJ0_coder_7d493.desc).map (fun d => d.parameters.length) = some 0 := by decide +kernel
theorem hdc_J0_indexOf_0f7a4 : yJ0_indexOf_0f7a4.cls = RJ0 ∧ yJ0_indexOf_0f7a4.cls ≠ "java/lang/invoke/MethodHandle" ∧ yJ0_indexOf_0f7a4.cls ≠ "java/lang/invoke/VarHandle" ∧ (parseMethodDescriptor yJ0_indexOf_0f7a4.desc).map (fun d => d.parameters.length) = some 1 := by decide +kernel
theorem hdc_J0_indexOf_7cf53 : yJ0_indexOf_7cf53.cls = RJ0 ∧ yJ0_indexOf_7cf53.cls ≠ "java/lang/invoke/MethodHandle" ∧ yJ0_indexOf_7cf53.cls ≠ "java/lang/invoke/VarHandle" ∧ (parseMethodDescriptor yJ0_indexOf_7cf53.desc).map (fun d => d.parameters.length) = some 2 := by decide +kernel
theorem hdc_J0_isLatin1_aae02 : yJ0_isLatin1_aae02.cls = RJ0 ∧ yJ0_isLatin1_aae02.cls ≠ "java/lang/invoke/MethodHandle" ∧ yJ0_isLatin1_aae02.cls ≠ "java/lang/invoke/VarHandle" ∧ (parseMethodDescriptor yJ0_isLatin1_aae02.desc).map (fun d => d.parameters.length) = some 0 := by decide +kernel
theorem hdc_J0_length_8abf5 : yJ0_length_8abf5.cls = RJ0 ∧ yJ0_length_8abf5.cls ≠ "java/lang/invoke/MethodHandle" ∧ yJ0_length_8abf5.cls ≠ "java/lang/invoke/VarHandle" ∧ (parseMethodDescriptor yJ0_length_8abf5.desc).map (fun d => d.parameters.length) = some 0 := by decide +kernel
theorem hdc_J11_highSurrogate_5068e : yJ11_highSurrogate_5068e.cls = RJ11 ∧ yJ11_highSurrogate_5068e.cls ≠ "java/lang/invoke/MethodHandle" ∧ yJ11_highSurrogate_5068e.cls ≠ "java/lang/invoke/VarHandle" ∧ (parseMethodDescriptor yJ11_highSurrogate_5068e.desc).map (fun d => d.parameters.length) = some 1 := by decide +kernel
theorem hdc_J11_isValidCodePoint_9a6ad : yJ11_isValidCodePoint_9a6ad.cls = RJ11 ∧ yJ11_isValidCodePoint_9a6ad.cls ≠ "java/lang/invoke/MethodHandle" ∧ yJ11_isValidCodePoint_9a6ad.cls ≠ "java/lang/invoke/VarHandle" ∧ (parseMethodDescriptor yJ11_isValidCodePoint_9a6ad.desc).map (fun d => d.parameters.length) = some 1 := by decide +kernel
theorem hdc_J11_lowSurrogate_5068e : yJ11_lowSurrogate_5068e.cls = RJ11 ∧ yJ11_lowSurrogate_5068e.cls ≠ "java/lang/invoke/MethodHandle" ∧ yJ11_lowSurrogate_5068e.cls ≠ "java/lang/invoke/VarHandle" ∧ (parseMethodDescriptor yJ11_lowSurrogate_5068e.desc).map (fun d => d.parameters.length) = some 1 := by decide +kernel
theorem hdc_J1_canEncode_9a6ad : yJ1_canEncode_9a6ad.cls = RJ1 ∧ yJ1_canEncode_9a6ad.cls ≠ "java/lang/invoke/MethodHandle" ∧ yJ1_canEncode_9a6ad.cls ≠ "java/lang/invoke/VarHandle" ∧ (parseMethodDescriptor yJ1_canEncode_9a6ad.desc).map (fun d => d.parameters.length) = some 1 := by decide +kernel
theorem hdc_J1_indexOfChar_4cfef : yJ1_indexOfChar_4cfef.cls = RJ1 ∧ yJ1_indexOfChar_4cfef.cls ≠ "java/lang/invoke/MethodHandle" ∧ yJ1_indexOfChar_4cfef.cls ≠ "java/lang/invoke/VarHandle" ∧ (parseMethodDescriptor yJ1_indexOfChar_4cfef.desc).map (fun d => d.parameters.length) = some 4 := by decide +kernel
theorem hdc_J1_indexOf_4cfef : yJ1_indexOf_4cfef.cls = RJ1 ∧ yJ1_indexOf_4cfef.cls ≠ "java/lang/invoke/MethodHandle" ∧ yJ1_indexOf_4cfef.cls ≠ "java/lang/invoke/VarHandle" ∧ (parseMethodDescriptor yJ1_indexOf_4cfef.desc).map (fun d => d.parameters.length) = some 4 := by decide +kernel
theorem hdc_J2_checkBoundsBeginEnd_d044e : yJ2_checkBoundsBeginEnd_d044e.cls = RJ2 ∧ yJ2_checkBoundsBeginEnd_d044e.cls ≠ "java/lang/invoke/MethodHandle" ∧ yJ2_checkBoundsBeginEnd_d044e.cls ≠ "java/lang/invoke/VarHandle" ∧ (parseMethodDescriptor yJ2_checkBoundsBeginEnd_d044e.desc).map (fun d => d.parameters.length) = some 3 := by decide +kernel
theorem hdc_J2_getChar_3b067 : yJ2_getChar_3b067.cls = RJ2 ∧ yJ2_getChar_3b067.cls ≠ "java/lang/invoke/MethodHandle" ∧ yJ2_getChar_3b067.cls ≠ "java/lang/invoke/VarHandle" ∧ (parseMethodDescriptor yJ2_getChar_3b067.desc).map (fun d => d.parameters.length) = some 2 := by decide +kernel
theorem hdc_J2_indexOfCharUnsafe_4cfef : yJ2_indexOfCharUnsafe_4cfef.cls = RJ2 ∧ yJ2_indexOfCharUnsafe_4cfef.cls ≠ "java/lang/invoke/MethodHandle" ∧ yJ2_indexOfCharUnsafe_4cfef.cls ≠ "java/lang/invoke/VarHandle" ∧ (parseMethodDescriptor yJ2_indexOfCharUnsafe_4cfef.desc).map (fun d => d.parameters.length) = some 4 := by decide +kernel
theorem hdc_J2_indexOfChar_4cfef : yJ2_indexOfChar_4cfef.cls = RJ2 ∧ yJ2_indexOfChar_4cfef.cls ≠ "java/lang/invoke/MethodHandle" ∧ yJ2_indexOfChar_4cfef.cls ≠ "java/lang/invoke/VarHandle" ∧ (parseMethodDescriptor yJ2_indexOfChar_4cfef.desc).map (fun d => d.parameters.length) = some 4 := by decide +kernel
theorem hdc_J2_indexOfSupplementary_4cfef : yJ2_indexOfSupplementary_4cfef.cls = RJ2 ∧ yJ2_indexOfSupplementary_4cfef.cls ≠ "java/lang/invoke/MethodHandle" ∧ yJ2_indexOfSupplementary_4cfef.cls ≠ "java/lang/invoke/VarHandle" ∧ (parseMethodDescriptor yJ2_indexOfSupplementary_4cfef.desc).map (fun d => d.parameters.length) = some 4 := by decide +kernel
theorem hdc_J2_indexOf_4cfef : yJ2_indexOf_4cfef.cls = RJ2 ∧ yJ2_indexOf_4cfef.cls ≠ "java/lang/invoke/MethodHandle" ∧ yJ2_indexOf_4cfef.cls ≠ "java/lang/invoke/VarHandle" ∧ (parseMethodDescriptor yJ2_indexOf_4cfef.desc).map (fun d => d.parameters.length) = some 4 := by decide +kernel
theorem hdc_J2_length_9d52b : yJ2_length_9d52b.cls = RJ2 ∧ yJ2_length_9d52b.cls ≠ "java/lang/invoke/MethodHandle" ∧ yJ2_length_9d52b.cls ≠ "java/lang/invoke/VarHandle" ∧ (parseMethodDescriptor yJ2_length_9d52b.desc).map (fun d => d.parameters.length) = some 1 := by decide +kernel
theorem hdc_J3_checkFromToIndex_8c36e : yJ3_checkFromToIndex_8c36e.cls = RJ3 ∧ yJ3_checkFromToIndex_8c36e.cls ≠ "java/lang/invoke/MethodHandle" ∧ yJ3_checkFromToIndex_8c36e.cls ≠ "java/lang/invoke/VarHandle" ∧ (parseMethodDescriptor yJ3_checkFromToIndex_8c36e.desc).map (fun d => d.parameters.length) = some 4 := by decide +kernel
theorem hdc_J6_bitCount_0f7a4 : yJ6_bitCount_0f7a4.cls = RJ6 ∧ yJ6_bitCount_0f7a4.cls ≠ "java/lang/invoke/MethodHandle" ∧ yJ6_bitCount_0f7a4.cls ≠ "java/lang/invoke/VarHandle" ∧ (parseMethodDescriptor yJ6_bitCount_0f7a4.desc).map (fun d => d.parameters.length) = some 1 := by decide +kernel
theorem hdc_J6_numberOfTrailingZeros_0f7a4 : yJ6_numberOfTrailingZeros_0f7a4.cls = RJ6 ∧ yJ6_numberOfTrailingZeros_0f7a4.cls ≠ "java/lang/invoke/MethodHandle" ∧ yJ6_numberOfTrailingZeros_0f7a4.cls ≠ "java/lang/invoke/VarHandle" ∧ (parseMethodDescriptor yJ6_numberOfTrailingZeros_0f7a4.desc).map (fun d => d.parameters.length) = some 1 := by decide +kernel
theorem hdc_X0_copyFrom : yX0_copyFrom.cls = RX0 ∧ yX0_copyFrom.cls ≠ "java/lang/invoke/MethodHandle" ∧ yX0_copyFrom.cls ≠ "java/lang/invoke/VarHandle" ∧ (parseMethodDescriptor yX0_copyFrom.desc).map (fun d => d.parameters.length) = some 1 := by decide +kernel
theorem hdc_X0_init : yX0_init.cls = RX0 ∧ yX0_init.cls ≠ "java/lang/invoke/MethodHandle" ∧ yX0_init.cls ≠ "java/lang/invoke/VarHandle" ∧ (parseMethodDescriptor yX0_init.desc).map (fun d => d.parameters.length) = some 0 := by decide +kernel
theorem hdc_X0_turnOver : yX0_turnOver.cls = RX0 ∧ yX0_turnOver.cls ≠ "java/lang/invoke/MethodHandle" ∧ yX0_turnOver.cls ≠ "java/lang/invoke/VarHandle" ∧ (parseMethodDescriptor yX0_turnOver.desc).map (fun d => d.parameters.length) = some 1 := by decide +kernel
theorem hdc_X1_addSolution : yX1_addSolution.cls = RX1 ∧ yX1_addSolution.cls ≠ "java/lang/invoke/MethodHandle" ∧ yX1_addSolution.cls ≠ "java/lang/invoke/VarHandle" ∧ (parseMethodDescriptor yX1_addSolution.desc).map (fun d => d.parameters.length) = some 3 := by decide +kernel
theorem hdc_X1_allWays : yX1_allWays.cls = RX1 ∧ yX1_allWays.cls ≠ "java/lang/invoke/MethodHandle" ∧ yX1_allWays.cls ≠ "java/lang/invoke/VarHandle" ∧ (parseMethodDescriptor yX1_allWays.desc).map (fun d => d.parameters.length) = some 0 := by decide +kernel
theorem hdc_X1_coloursFree : yX1_coloursFree.cls = RX1 ∧ yX1_coloursFree.cls ≠ "java/lang/invoke/MethodHandle" ∧ yX1_coloursFree.cls ≠ "java/lang/invoke/VarHandle" ∧ (parseMethodDescriptor yX1_coloursFree.desc).map (fun d => d.parameters.length) = some 2 := by decide +kernel
theorem hdc_X1_firstTurn : yX1_firstTurn.cls = RX1 ∧ yX1_firstTurn.cls ≠ "java/lang/invoke/MethodHandle" ∧ yX1_firstTurn.cls ≠ "java/lang/invoke/VarHandle" ∧ (parseMethodDescriptor yX1_firstTurn.desc).map (fun d => d.parameters.length) = some 0 := by decide +kernel
theorem hdc_X1_helpfulColours : yX1_helpfulColours.cls = RX1 ∧ yX1_helpfulColours.cls ≠ "java/lang/invoke/MethodHandle" ∧ yX1_helpfulColours.cls ≠ "java/lang/invoke/VarHandle" ∧ (parseMethodDescriptor yX1_helpfulColours.desc).map (fun d => d.parameters.length) = some 2 := by decide +kernel
theorem hdc_X1_init : yX1_init.cls = RX1 ∧ yX1_init.cls ≠ "java/lang/invoke/MethodHandle" ∧ yX1_init.cls ≠ "java/lang/invoke/VarHandle" ∧ (parseMethodDescriptor yX1_init.desc).map (fun d => d.parameters.length) = some 0 := by decide +kernel
theorem hdc_X1_layOut : yX1_layOut.cls = RX1 ∧ yX1_layOut.cls ≠ "java/lang/invoke/MethodHandle" ∧ yX1_layOut.cls ≠ "java/lang/invoke/VarHandle" ∧ (parseMethodDescriptor yX1_layOut.desc).map (fun d => d.parameters.length) = some 2 := by decide +kernel
theorem hdc_X1_look : yX1_look.cls = RX1 ∧ yX1_look.cls ≠ "java/lang/invoke/MethodHandle" ∧ yX1_look.cls ≠ "java/lang/invoke/VarHandle" ∧ (parseMethodDescriptor yX1_look.desc).map (fun d => d.parameters.length) = some 1 := by decide +kernel
theorem hdc_X1_pairOthers : yX1_pairOthers.cls = RX1 ∧ yX1_pairOthers.cls ≠ "java/lang/invoke/MethodHandle" ∧ yX1_pairOthers.cls ≠ "java/lang/invoke/VarHandle" ∧ (parseMethodDescriptor yX1_pairOthers.desc).map (fun d => d.parameters.length) = some 1 := by decide +kernel
theorem hdc_X1_sideToPaint : yX1_sideToPaint.cls = RX1 ∧ yX1_sideToPaint.cls ≠ "java/lang/invoke/MethodHandle" ∧ yX1_sideToPaint.cls ≠ "java/lang/invoke/VarHandle" ∧ (parseMethodDescriptor yX1_sideToPaint.desc).map (fun d => d.parameters.length) = some 1 := by decide +kernel
theorem hdc_X1_tryThird : yX1_tryThird.cls = RX1 ∧ yX1_tryThird.cls ≠ "java/lang/invoke/MethodHandle" ∧ yX1_tryThird.cls ≠ "java/lang/invoke/VarHandle" ∧ (parseMethodDescriptor yX1_tryThird.desc).map (fun d => d.parameters.length) = some 3 := by decide +kernel
theorem hdc_X1_wallsOf : yX1_wallsOf.cls = RX1 ∧ yX1_wallsOf.cls ≠ "java/lang/invoke/MethodHandle" ∧ yX1_wallsOf.cls ≠ "java/lang/invoke/VarHandle" ∧ (parseMethodDescriptor yX1_wallsOf.desc).map (fun d => d.parameters.length) = some 3 := by decide +kernel
theorem hdc_X2_clashes : yX2_clashes.cls = RX2 ∧ yX2_clashes.cls ≠ "java/lang/invoke/MethodHandle" ∧ yX2_clashes.cls ≠ "java/lang/invoke/VarHandle" ∧ (parseMethodDescriptor yX2_clashes.desc).map (fun d => d.parameters.length) = some 0 := by decide +kernel
theorem hdc_X2_clashesOn : yX2_clashesOn.cls = RX2 ∧ yX2_clashesOn.cls ≠ "java/lang/invoke/MethodHandle" ∧ yX2_clashesOn.cls ≠ "java/lang/invoke/VarHandle" ∧ (parseMethodDescriptor yX2_clashesOn.desc).map (fun d => d.parameters.length) = some 1 := by decide +kernel
theorem hdc_X2_coloursUsed : yX2_coloursUsed.cls = RX2 ∧ yX2_coloursUsed.cls ≠ "java/lang/invoke/MethodHandle" ∧ yX2_coloursUsed.cls ≠ "java/lang/invoke/VarHandle" ∧ (parseMethodDescriptor yX2_coloursUsed.desc).map (fun d => d.parameters.length) = some 0 := by decide +kernel
theorem hdc_X2_copyFrom : yX2_copyFrom.cls = RX2 ∧ yX2_copyFrom.cls ≠ "java/lang/invoke/MethodHandle" ∧ yX2_copyFrom.cls ≠ "java/lang/invoke/VarHandle" ∧ (parseMethodDescriptor yX2_copyFrom.desc).map (fun d => d.parameters.length) = some 1 := by decide +kernel
theorem hdc_X2_forgetAll : yX2_forgetAll.cls = RX2 ∧ yX2_forgetAll.cls ≠ "java/lang/invoke/MethodHandle" ∧ yX2_forgetAll.cls ≠ "java/lang/invoke/VarHandle" ∧ (parseMethodDescriptor yX2_forgetAll.desc).map (fun d => d.parameters.length) = some 0 := by decide +kernel
theorem hdc_X2_goodWalls : yX2_goodWalls.cls = RX2 ∧ yX2_goodWalls.cls ≠ "java/lang/invoke/MethodHandle" ∧ yX2_goodWalls.cls ≠ "java/lang/invoke/VarHandle" ∧ (parseMethodDescriptor yX2_goodWalls.desc).map (fun d => d.parameters.length) = some 0 := by decide +kernel
theorem hdc_X2_has : yX2_has.cls = RX2 ∧ yX2_has.cls ≠ "java/lang/invoke/MethodHandle" ∧ yX2_has.cls ≠ "java/lang/invoke/VarHandle" ∧ (parseMethodDescriptor yX2_has.desc).map (fun d => d.parameters.length) = some 1 := by decide +kernel
theorem hdc_X2_init : yX2_init.cls = RX2 ∧ yX2_init.cls ≠ "java/lang/invoke/MethodHandle" ∧ yX2_init.cls ≠ "java/lang/invoke/VarHandle" ∧ (parseMethodDescriptor yX2_init.desc).map (fun d => d.parameters.length) = some 0 := by decide +kernel
theorem hdc_X3_find : yX3_find.cls = RX3 ∧ yX3_find.cls ≠ "java/lang/invoke/MethodHandle" ∧ yX3_find.cls ≠ "java/lang/invoke/VarHandle" ∧ (parseMethodDescriptor yX3_find.desc).map (fun d => d.parameters.length) = some 0 := by decide +kernel
theorem hdc_X3_init : yX3_init.cls = RX3 ∧ yX3_init.cls ≠ "java/lang/invoke/MethodHandle" ∧ yX3_init.cls ≠ "java/lang/invoke/VarHandle" ∧ (parseMethodDescriptor yX3_init.desc).map (fun d => d.parameters.length) = some 1 := by decide +kernel
theorem hdc_X3_placeOf : yX3_placeOf.cls = RX3 ∧ yX3_placeOf.cls ≠ "java/lang/invoke/MethodHandle" ∧ yX3_placeOf.cls ≠ "java/lang/invoke/VarHandle" ∧ (parseMethodDescriptor yX3_placeOf.desc).map (fun d => d.parameters.length) = some 2 := by decide +kernel
theorem hdc_X3_reach : yX3_reach.cls = RX3 ∧ yX3_reach.cls ≠ "java/lang/invoke/MethodHandle" ∧ yX3_reach.cls ≠ "java/lang/invoke/VarHandle" ∧ (parseMethodDescriptor yX3_reach.desc).map (fun d => d.parameters.length) = some 3 := by decide +kernel
theorem hdc_X3_sameRows : yX3_sameRows.cls = RX3 ∧ yX3_sameRows.cls ≠ "java/lang/invoke/MethodHandle" ∧ yX3_sameRows.cls ≠ "java/lang/invoke/VarHandle" ∧ (parseMethodDescriptor yX3_sameRows.desc).map (fun d => d.parameters.length) = some 2 := by decide +kernel
theorem hdc_X4_addCube : yX4_addCube.cls = RX4 ∧ yX4_addCube.cls ≠ "java/lang/invoke/MethodHandle" ∧ yX4_addCube.cls ≠ "java/lang/invoke/VarHandle" ∧ (parseMethodDescriptor yX4_addCube.desc).map (fun d => d.parameters.length) = some 2 := by decide +kernel
theorem hdc_X4_addWholeTower : yX4_addWholeTower.cls = RX4 ∧ yX4_addWholeTower.cls ≠ "java/lang/invoke/MethodHandle" ∧ yX4_addWholeTower.cls ≠ "java/lang/invoke/VarHandle" ∧ (parseMethodDescriptor yX4_addWholeTower.desc).map (fun d => d.parameters.length) = some 1 := by decide +kernel
theorem hdc_X4_as : yX4_as.cls = RX4 ∧ yX4_as.cls ≠ "java/lang/invoke/MethodHandle" ∧ yX4_as.cls ≠ "java/lang/invoke/VarHandle" ∧ (parseMethodDescriptor yX4_as.desc).map (fun d => d.parameters.length) = some 2 := by decide +kernel
theorem hdc_X4_be : yX4_be.cls = RX4 ∧ yX4_be.cls ≠ "java/lang/invoke/MethodHandle" ∧ yX4_be.cls ≠ "java/lang/invoke/VarHandle" ∧ (parseMethodDescriptor yX4_be.desc).map (fun d => d.parameters.length) = some 2 := by decide +kernel
theorem hdc_X4_blank : yX4_blank.cls = RX4 ∧ yX4_blank.cls ≠ "java/lang/invoke/MethodHandle" ∧ yX4_blank.cls ≠ "java/lang/invoke/VarHandle" ∧ (parseMethodDescriptor yX4_blank.desc).map (fun d => d.parameters.length) = some 0 := by decide +kernel
theorem hdc_X4_canTurn : yX4_canTurn.cls = RX4 ∧ yX4_canTurn.cls ≠ "java/lang/invoke/MethodHandle" ∧ yX4_canTurn.cls ≠ "java/lang/invoke/VarHandle" ∧ (parseMethodDescriptor yX4_canTurn.desc).map (fun d => d.parameters.length) = some 2 := by decide +kernel
theorem hdc_X4_commonDivisor : yX4_commonDivisor.cls = RX4 ∧ yX4_commonDivisor.cls ≠ "java/lang/invoke/MethodHandle" ∧ yX4_commonDivisor.cls ≠ "java/lang/invoke/VarHandle" ∧ (parseMethodDescriptor yX4_commonDivisor.desc).map (fun d => d.parameters.length) = some 2 := by decide +kernel
theorem hdc_X4_count : yX4_count.cls = RX4 ∧ yX4_count.cls ≠ "java/lang/invoke/MethodHandle" ∧ yX4_count.cls ≠ "java/lang/invoke/VarHandle" ∧ (parseMethodDescriptor yX4_count.desc).map (fun d => d.parameters.length) = some 1 := by decide +kernel
theorem hdc_X4_cube : yX4_cube.cls = RX4 ∧ yX4_cube.cls ≠ "java/lang/invoke/MethodHandle" ∧ yX4_cube.cls ≠ "java/lang/invoke/VarHandle" ∧ (parseMethodDescriptor yX4_cube.desc).map (fun d => d.parameters.length) = some 2 := by decide +kernel
theorem hdc_X4_digest : yX4_digest.cls = RX4 ∧ yX4_digest.cls ≠ "java/lang/invoke/MethodHandle" ∧ yX4_digest.cls ≠ "java/lang/invoke/VarHandle" ∧ (parseMethodDescriptor yX4_digest.desc).map (fun d => d.parameters.length) = some 0 := by decide +kernel
theorem hdc_X4_draw : yX4_draw.cls = RX4 ∧ yX4_draw.cls ≠ "java/lang/invoke/MethodHandle" ∧ yX4_draw.cls ≠ "java/lang/invoke/VarHandle" ∧ (parseMethodDescriptor yX4_draw.desc).map (fun d => d.parameters.length) = some 2 := by decide +kernel
theorem hdc_X4_fault : yX4_fault.cls = RX4 ∧ yX4_fault.cls ≠ "java/lang/invoke/MethodHandle" ∧ yX4_fault.cls ≠ "java/lang/invoke/VarHandle" ∧ (parseMethodDescriptor yX4_fault.desc).map (fun d => d.parameters.length) = some 0 := by decide +kernel
theorem hdc_X4_fits : yX4_fits.cls = RX4 ∧ yX4_fits.cls ≠ "java/lang/invoke/MethodHandle" ∧ yX4_fits.cls ≠ "java/lang/invoke/VarHandle" ∧ (parseMethodDescriptor yX4_fits.desc).map (fun d => d.parameters.length) = some 2 := by decide +kernel
theorem hdc_X4_forget : yX4_forget.cls = RX4 ∧ yX4_forget.cls ≠ "java/lang/invoke/MethodHandle" ∧ yX4_forget.cls ≠ "java/lang/invoke/VarHandle" ∧ (parseMethodDescriptor yX4_forget.desc).map (fun d => d.parameters.length) = some 0 := by decide +kernel
theorem hdc_X4_image : yX4_image.cls = RX4 ∧ yX4_image.cls ≠ "java/lang/invoke/MethodHandle" ∧ yX4_image.cls ≠ "java/lang/invoke/VarHandle" ∧ (parseMethodDescriptor yX4_image.desc).map (fun d => d.parameters.length) = some 0 := by decide +kernel
theorem hdc_X4_init : yX4_init.cls = RX4 ∧ yX4_init.cls ≠ "java/lang/invoke/MethodHandle" ∧ yX4_init.cls ≠ "java/lang/invoke/VarHandle" ∧ (parseMethodDescriptor yX4_init.desc).map (fun d => d.parameters.length) = some 0 := by decide +kernel
theorem hdc_X4_letter : yX4_letter.cls = RX4 ∧ yX4_letter.cls ≠ "java/lang/invoke/MethodHandle" ∧ yX4_letter.cls ≠ "java/lang/invoke/VarHandle" ∧ (parseMethodDescriptor yX4_letter.desc).map (fun d => d.parameters.length) = some 1 := by decide +kernel
theorem hdc_X4_lookAround : yX4_lookAround.cls = RX4 ∧ yX4_lookAround.cls ≠ "java/lang/invoke/MethodHandle" ∧ yX4_lookAround.cls ≠ "java/lang/invoke/VarHandle" ∧ (parseMethodDescriptor yX4_lookAround.desc).map (fun d => d.parameters.length) = some 0 := by decide +kernel
theorem hdc_X4_nextQuestion : yX4_nextQuestion.cls = RX4 ∧ yX4_nextQuestion.cls ≠ "java/lang/invoke/MethodHandle" ∧ yX4_nextQuestion.cls ≠ "java/lang/invoke/VarHandle" ∧ (parseMethodDescriptor yX4_nextQuestion.desc).map (fun d => d.parameters.length) = some 1 := by decide +kernel
theorem hdc_X4_nextSeed : yX4_nextSeed.cls = RX4 ∧ yX4_nextSeed.cls ≠ "java/lang/invoke/MethodHandle" ∧ yX4_nextSeed.cls ≠ "java/lang/invoke/VarHandle" ∧ (parseMethodDescriptor yX4_nextSeed.desc).map (fun d => d.parameters.length) = some 1 := by decide +kernel
theorem hdc_X4_odds : yX4_odds.cls = RX4 ∧ yX4_odds.cls ≠ "java/lang/invoke/MethodHandle" ∧ yX4_odds.cls ≠ "java/lang/invoke/VarHandle" ∧ (parseMethodDescriptor yX4_odds.desc).map (fun d => d.parameters.length) = some 1 := by decide +kernel
theorem hdc_X4_paint : yX4_paint.cls = RX4 ∧ yX4_paint.cls ≠ "java/lang/invoke/MethodHandle" ∧ yX4_paint.cls ≠ "java/lang/invoke/VarHandle" ∧ (parseMethodDescriptor yX4_paint.desc).map (fun d => d.parameters.length) = some 3 := by decide +kernel
theorem hdc_X4_readPage : yX4_readPage.cls = RX4 ∧ yX4_readPage.cls ≠ "java/lang/invoke/MethodHandle" ∧ yX4_readPage.cls ≠ "java/lang/invoke/VarHandle" ∧ (parseMethodDescriptor yX4_readPage.desc).map (fun d => d.parameters.length) = some 1 := by decide +kernel
theorem hdc_X4_repaint : yX4_repaint.cls = RX4 ∧ yX4_repaint.cls ≠ "java/lang/invoke/MethodHandle" ∧ yX4_repaint.cls ≠ "java/lang/invoke/VarHandle" ∧ (parseMethodDescriptor yX4_repaint.desc).map (fun d => d.parameters.length) = some 0 := by decide +kernel
theorem hdc_X4_restore : yX4_restore.cls = RX4 ∧ yX4_restore.cls ≠ "java/lang/invoke/MethodHandle" ∧ yX4_restore.cls ≠ "java/lang/invoke/VarHandle" ∧ (parseMethodDescriptor yX4_restore.desc).map (fun d => d.parameters.length) = some 0 := by decide +kernel
theorem hdc_X4_runs : yX4_runs.cls = RX4 ∧ yX4_runs.cls ≠ "java/lang/invoke/MethodHandle" ∧ yX4_runs.cls ≠ "java/lang/invoke/VarHandle" ∧ (parseMethodDescriptor yX4_runs.desc).map (fun d => d.parameters.length) = some 3 := by decide +kernel
theorem hdc_X4_see : yX4_see.cls = RX4 ∧ yX4_see.cls ≠ "java/lang/invoke/MethodHandle" ∧ yX4_see.cls ≠ "java/lang/invoke/VarHandle" ∧ (parseMethodDescriptor yX4_see.desc).map (fun d => d.parameters.length) = some 3 := by decide +kernel
theorem hdc_X4_swap : yX4_swap.cls = RX4 ∧ yX4_swap.cls ≠ "java/lang/invoke/MethodHandle" ∧ yX4_swap.cls ≠ "java/lang/invoke/VarHandle" ∧ (parseMethodDescriptor yX4_swap.desc).map (fun d => d.parameters.length) = some 2 := by decide +kernel
theorem hdc_X4_tower : yX4_tower.cls = RX4 ∧ yX4_tower.cls ≠ "java/lang/invoke/MethodHandle" ∧ yX4_tower.cls ≠ "java/lang/invoke/VarHandle" ∧ (parseMethodDescriptor yX4_tower.desc).map (fun d => d.parameters.length) = some 0 := by decide +kernel
theorem hdc_X4_turn : yX4_turn.cls = RX4 ∧ yX4_turn.cls ≠ "java/lang/invoke/MethodHandle" ∧ yX4_turn.cls ≠ "java/lang/invoke/VarHandle" ∧ (parseMethodDescriptor yX4_turn.desc).map (fun d => d.parameters.length) = some 2 := by decide +kernel
theorem hdc_X4_turnRow : yX4_turnRow.cls = RX4 ∧ yX4_turnRow.cls ≠ "java/lang/invoke/MethodHandle" ∧ yX4_turnRow.cls ≠ "java/lang/invoke/VarHandle" ∧ (parseMethodDescriptor yX4_turnRow.desc).map (fun d => d.parameters.length) = some 4 := by decide +kernel
theorem hdc_X4_turning : yX4_turning.cls = RX4 ∧ yX4_turning.cls ≠ "java/lang/invoke/MethodHandle" ∧ yX4_turning.cls ≠ "java/lang/invoke/VarHandle" ∧ (parseMethodDescriptor yX4_turning.desc).map (fun d => d.parameters.length) = some 1 := by decide +kernel
theorem hdc_X4_wall : yX4_wall.cls = RX4 ∧ yX4_wall.cls ≠ "java/lang/invoke/MethodHandle" ∧ yX4_wall.cls ≠ "java/lang/invoke/VarHandle" ∧ (parseMethodDescriptor yX4_wall.desc).map (fun d => d.parameters.length) = some 2 := by decide +kernel
theorem hdc_X4_ways : yX4_ways.cls = RX4 ∧ yX4_ways.cls ≠ "java/lang/invoke/MethodHandle" ∧ yX4_ways.cls ≠ "java/lang/invoke/VarHandle" ∧ (parseMethodDescriptor yX4_ways.desc).map (fun d => d.parameters.length) = some 1 := by decide +kernel
theorem hdc_X5_all : yX5_all.cls = RX5 ∧ yX5_all.cls ≠ "java/lang/invoke/MethodHandle" ∧ yX5_all.cls ≠ "java/lang/invoke/VarHandle" ∧ (parseMethodDescriptor yX5_all.desc).map (fun d => d.parameters.length) = some 0 := by decide +kernel
theorem hdc_X5_as : yX5_as.cls = RX5 ∧ yX5_as.cls ≠ "java/lang/invoke/MethodHandle" ∧ yX5_as.cls ≠ "java/lang/invoke/VarHandle" ∧ (parseMethodDescriptor yX5_as.desc).map (fun d => d.parameters.length) = some 2 := by decide +kernel
theorem hdc_X5_askOf : yX5_askOf.cls = RX5 ∧ yX5_askOf.cls ≠ "java/lang/invoke/MethodHandle" ∧ yX5_askOf.cls ≠ "java/lang/invoke/VarHandle" ∧ (parseMethodDescriptor yX5_askOf.desc).map (fun d => d.parameters.length) = some 1 := by decide +kernel
theorem hdc_X5_at : yX5_at.cls = RX5 ∧ yX5_at.cls ≠ "java/lang/invoke/MethodHandle" ∧ yX5_at.cls ≠ "java/lang/invoke/VarHandle" ∧ (parseMethodDescriptor yX5_at.desc).map (fun d => d.parameters.length) = some 1 := by decide +kernel
theorem hdc_X5_be : yX5_be.cls = RX5 ∧ yX5_be.cls ≠ "java/lang/invoke/MethodHandle" ∧ yX5_be.cls ≠ "java/lang/invoke/VarHandle" ∧ (parseMethodDescriptor yX5_be.desc).map (fun d => d.parameters.length) = some 2 := by decide +kernel
theorem hdc_X5_blank : yX5_blank.cls = RX5 ∧ yX5_blank.cls ≠ "java/lang/invoke/MethodHandle" ∧ yX5_blank.cls ≠ "java/lang/invoke/VarHandle" ∧ (parseMethodDescriptor yX5_blank.desc).map (fun d => d.parameters.length) = some 0 := by decide +kernel
theorem hdc_X5_clashes : yX5_clashes.cls = RX5 ∧ yX5_clashes.cls ≠ "java/lang/invoke/MethodHandle" ∧ yX5_clashes.cls ≠ "java/lang/invoke/VarHandle" ∧ (parseMethodDescriptor yX5_clashes.desc).map (fun d => d.parameters.length) = some 0 := by decide +kernel
theorem hdc_X5_clashesBy : yX5_clashesBy.cls = RX5 ∧ yX5_clashesBy.cls ≠ "java/lang/invoke/MethodHandle" ∧ yX5_clashesBy.cls ≠ "java/lang/invoke/VarHandle" ∧ (parseMethodDescriptor yX5_clashesBy.desc).map (fun d => d.parameters.length) = some 1 := by decide +kernel
theorem hdc_X5_clashesOf : yX5_clashesOf.cls = RX5 ∧ yX5_clashesOf.cls ≠ "java/lang/invoke/MethodHandle" ∧ yX5_clashesOf.cls ≠ "java/lang/invoke/VarHandle" ∧ (parseMethodDescriptor yX5_clashesOf.desc).map (fun d => d.parameters.length) = some 3 := by decide +kernel
theorem hdc_X5_clashesOn : yX5_clashesOn.cls = RX5 ∧ yX5_clashesOn.cls ≠ "java/lang/invoke/MethodHandle" ∧ yX5_clashesOn.cls ≠ "java/lang/invoke/VarHandle" ∧ (parseMethodDescriptor yX5_clashesOn.desc).map (fun d => d.parameters.length) = some 4 := by decide +kernel
theorem hdc_X5_colours : yX5_colours.cls = RX5 ∧ yX5_colours.cls ≠ "java/lang/invoke/MethodHandle" ∧ yX5_colours.cls ≠ "java/lang/invoke/VarHandle" ∧ (parseMethodDescriptor yX5_colours.desc).map (fun d => d.parameters.length) = some 0 := by decide +kernel
theorem hdc_X5_could : yX5_could.cls = RX5 ∧ yX5_could.cls ≠ "java/lang/invoke/MethodHandle" ∧ yX5_could.cls ≠ "java/lang/invoke/VarHandle" ∧ (parseMethodDescriptor yX5_could.desc).map (fun d => d.parameters.length) = some 2 := by decide +kernel
theorem hdc_X5_count : yX5_count.cls = RX5 ∧ yX5_count.cls ≠ "java/lang/invoke/MethodHandle" ∧ yX5_count.cls ≠ "java/lang/invoke/VarHandle" ∧ (parseMethodDescriptor yX5_count.desc).map (fun d => d.parameters.length) = some 1 := by decide +kernel
theorem hdc_X5_cube : yX5_cube.cls = RX5 ∧ yX5_cube.cls ≠ "java/lang/invoke/MethodHandle" ∧ yX5_cube.cls ≠ "java/lang/invoke/VarHandle" ∧ (parseMethodDescriptor yX5_cube.desc).map (fun d => d.parameters.length) = some 2 := by decide +kernel
theorem hdc_X5_cubeNow : yX5_cubeNow.cls = RX5 ∧ yX5_cubeNow.cls ≠ "java/lang/invoke/MethodHandle" ∧ yX5_cubeNow.cls ≠ "java/lang/invoke/VarHandle" ∧ (parseMethodDescriptor yX5_cubeNow.desc).map (fun d => d.parameters.length) = some 2 := by decide +kernel
theorem hdc_X5_digest : yX5_digest.cls = RX5 ∧ yX5_digest.cls ≠ "java/lang/invoke/MethodHandle" ∧ yX5_digest.cls ≠ "java/lang/invoke/VarHandle" ∧ (parseMethodDescriptor yX5_digest.desc).map (fun d => d.parameters.length) = some 0 := by decide +kernel
theorem hdc_X5_divisor : yX5_divisor.cls = RX5 ∧ yX5_divisor.cls ≠ "java/lang/invoke/MethodHandle" ∧ yX5_divisor.cls ≠ "java/lang/invoke/VarHandle" ∧ (parseMethodDescriptor yX5_divisor.desc).map (fun d => d.parameters.length) = some 2 := by decide +kernel
theorem hdc_X5_draw : yX5_draw.cls = RX5 ∧ yX5_draw.cls ≠ "java/lang/invoke/MethodHandle" ∧ yX5_draw.cls ≠ "java/lang/invoke/VarHandle" ∧ (parseMethodDescriptor yX5_draw.desc).map (fun d => d.parameters.length) = some 1 := by decide +kernel
theorem hdc_X5_farBy : yX5_farBy.cls = RX5 ∧ yX5_farBy.cls ≠ "java/lang/invoke/MethodHandle" ∧ yX5_farBy.cls ≠ "java/lang/invoke/VarHandle" ∧ (parseMethodDescriptor yX5_farBy.desc).map (fun d => d.parameters.length) = some 1 := by decide +kernel
theorem hdc_X5_fault : yX5_fault.cls = RX5 ∧ yX5_fault.cls ≠ "java/lang/invoke/MethodHandle" ∧ yX5_fault.cls ≠ "java/lang/invoke/VarHandle" ∧ (parseMethodDescriptor yX5_fault.desc).map (fun d => d.parameters.length) = some 0 := by decide +kernel
theorem hdc_X5_fewestTurns : yX5_fewestTurns.cls = RX5 ∧ yX5_fewestTurns.cls ≠ "java/lang/invoke/MethodHandle" ∧ yX5_fewestTurns.cls ≠ "java/lang/invoke/VarHandle" ∧ (parseMethodDescriptor yX5_fewestTurns.desc).map (fun d => d.parameters.length) = some 0 := by decide +kernel
theorem hdc_X5_first : yX5_first.cls = RX5 ∧ yX5_first.cls ≠ "java/lang/invoke/MethodHandle" ∧ yX5_first.cls ≠ "java/lang/invoke/VarHandle" ∧ (parseMethodDescriptor yX5_first.desc).map (fun d => d.parameters.length) = some 1 := by decide +kernel
theorem hdc_X5_firstTurn : yX5_firstTurn.cls = RX5 ∧ yX5_firstTurn.cls ≠ "java/lang/invoke/MethodHandle" ∧ yX5_firstTurn.cls ≠ "java/lang/invoke/VarHandle" ∧ (parseMethodDescriptor yX5_firstTurn.desc).map (fun d => d.parameters.length) = some 1 := by decide +kernel
theorem hdc_X5_forget : yX5_forget.cls = RX5 ∧ yX5_forget.cls ≠ "java/lang/invoke/MethodHandle" ∧ yX5_forget.cls ≠ "java/lang/invoke/VarHandle" ∧ (parseMethodDescriptor yX5_forget.desc).map (fun d => d.parameters.length) = some 0 := by decide +kernel
theorem hdc_X5_goodWalls : yX5_goodWalls.cls = RX5 ∧ yX5_goodWalls.cls ≠ "java/lang/invoke/MethodHandle" ∧ yX5_goodWalls.cls ≠ "java/lang/invoke/VarHandle" ∧ (parseMethodDescriptor yX5_goodWalls.desc).map (fun d => d.parameters.length) = some 0 := by decide +kernel
theorem hdc_X5_howMany : yX5_howMany.cls = RX5 ∧ yX5_howMany.cls ≠ "java/lang/invoke/MethodHandle" ∧ yX5_howMany.cls ≠ "java/lang/invoke/VarHandle" ∧ (parseMethodDescriptor yX5_howMany.desc).map (fun d => d.parameters.length) = some 1 := by decide +kernel
theorem hdc_X5_image : yX5_image.cls = RX5 ∧ yX5_image.cls ≠ "java/lang/invoke/MethodHandle" ∧ yX5_image.cls ≠ "java/lang/invoke/VarHandle" ∧ (parseMethodDescriptor yX5_image.desc).map (fun d => d.parameters.length) = some 0 := by decide +kernel
theorem hdc_X5_init : yX5_init.cls = RX5 ∧ yX5_init.cls ≠ "java/lang/invoke/MethodHandle" ∧ yX5_init.cls ≠ "java/lang/invoke/VarHandle" ∧ (parseMethodDescriptor yX5_init.desc).map (fun d => d.parameters.length) = some 0 := by decide +kernel
theorem hdc_X5_isBy : yX5_isBy.cls = RX5 ∧ yX5_isBy.cls ≠ "java/lang/invoke/MethodHandle" ∧ yX5_isBy.cls ≠ "java/lang/invoke/VarHandle" ∧ (parseMethodDescriptor yX5_isBy.desc).map (fun d => d.parameters.length) = some 3 := by decide +kernel
theorem hdc_X5_isCube : yX5_isCube.cls = RX5 ∧ yX5_isCube.cls ≠ "java/lang/invoke/MethodHandle" ∧ yX5_isCube.cls ≠ "java/lang/invoke/VarHandle" ∧ (parseMethodDescriptor yX5_isCube.desc).map (fun d => d.parameters.length) = some 1 := by decide +kernel
theorem hdc_X5_isIn : yX5_isIn.cls = RX5 ∧ yX5_isIn.cls ≠ "java/lang/invoke/MethodHandle" ∧ yX5_isIn.cls ≠ "java/lang/invoke/VarHandle" ∧ (parseMethodDescriptor yX5_isIn.desc).map (fun d => d.parameters.length) = some 2 := by decide +kernel
theorem hdc_X5_kindBy : yX5_kindBy.cls = RX5 ∧ yX5_kindBy.cls ≠ "java/lang/invoke/MethodHandle" ∧ yX5_kindBy.cls ≠ "java/lang/invoke/VarHandle" ∧ (parseMethodDescriptor yX5_kindBy.desc).map (fun d => d.parameters.length) = some 1 := by decide +kernel
theorem hdc_X5_laid : yX5_laid.cls = RX5 ∧ yX5_laid.cls ≠ "java/lang/invoke/MethodHandle" ∧ yX5_laid.cls ≠ "java/lang/invoke/VarHandle" ∧ (parseMethodDescriptor yX5_laid.desc).map (fun d => d.parameters.length) = some 2 := by decide +kernel
theorem hdc_X5_layAll : yX5_layAll.cls = RX5 ∧ yX5_layAll.cls ≠ "java/lang/invoke/MethodHandle" ∧ yX5_layAll.cls ≠ "java/lang/invoke/VarHandle" ∧ (parseMethodDescriptor yX5_layAll.desc).map (fun d => d.parameters.length) = some 0 := by decide +kernel
theorem hdc_X5_layColours : yX5_layColours.cls = RX5 ∧ yX5_layColours.cls ≠ "java/lang/invoke/MethodHandle" ∧ yX5_layColours.cls ≠ "java/lang/invoke/VarHandle" ∧ (parseMethodDescriptor yX5_layColours.desc).map (fun d => d.parameters.length) = some 1 := by decide +kernel
theorem hdc_X5_layWays : yX5_layWays.cls = RX5 ∧ yX5_layWays.cls ≠ "java/lang/invoke/MethodHandle" ∧ yX5_layWays.cls ≠ "java/lang/invoke/VarHandle" ∧ (parseMethodDescriptor yX5_layWays.desc).map (fun d => d.parameters.length) = some 2 := by decide +kernel
theorem hdc_X5_leastClashes : yX5_leastClashes.cls = RX5 ∧ yX5_leastClashes.cls ≠ "java/lang/invoke/MethodHandle" ∧ yX5_leastClashes.cls ≠ "java/lang/invoke/VarHandle" ∧ (parseMethodDescriptor yX5_leastClashes.desc).map (fun d => d.parameters.length) = some 0 := by decide +kernel
theorem hdc_X5_letter : yX5_letter.cls = RX5 ∧ yX5_letter.cls ≠ "java/lang/invoke/MethodHandle" ∧ yX5_letter.cls ≠ "java/lang/invoke/VarHandle" ∧ (parseMethodDescriptor yX5_letter.desc).map (fun d => d.parameters.length) = some 1 := by decide +kernel
theorem hdc_X5_mix : yX5_mix.cls = RX5 ∧ yX5_mix.cls ≠ "java/lang/invoke/MethodHandle" ∧ yX5_mix.cls ≠ "java/lang/invoke/VarHandle" ∧ (parseMethodDescriptor yX5_mix.desc).map (fun d => d.parameters.length) = some 1 := by decide +kernel
theorem hdc_X5_mixTower : yX5_mixTower.cls = RX5 ∧ yX5_mixTower.cls ≠ "java/lang/invoke/MethodHandle" ∧ yX5_mixTower.cls ≠ "java/lang/invoke/VarHandle" ∧ (parseMethodDescriptor yX5_mixTower.desc).map (fun d => d.parameters.length) = some 0 := by decide +kernel
theorem hdc_X5_odds : yX5_odds.cls = RX5 ∧ yX5_odds.cls ≠ "java/lang/invoke/MethodHandle" ∧ yX5_odds.cls ≠ "java/lang/invoke/VarHandle" ∧ (parseMethodDescriptor yX5_odds.desc).map (fun d => d.parameters.length) = some 1 := by decide +kernel
theorem hdc_X5_oddsNow : yX5_oddsNow.cls = RX5 ∧ yX5_oddsNow.cls ≠ "java/lang/invoke/MethodHandle" ∧ yX5_oddsNow.cls ≠ "java/lang/invoke/VarHandle" ∧ (parseMethodDescriptor yX5_oddsNow.desc).map (fun d => d.parameters.length) = some 1 := by decide +kernel
theorem hdc_X5_paint : yX5_paint.cls = RX5 ∧ yX5_paint.cls ≠ "java/lang/invoke/MethodHandle" ∧ yX5_paint.cls ≠ "java/lang/invoke/VarHandle" ∧ (parseMethodDescriptor yX5_paint.desc).map (fun d => d.parameters.length) = some 3 := by decide +kernel
theorem hdc_X5_painted : yX5_painted.cls = RX5 ∧ yX5_painted.cls ≠ "java/lang/invoke/MethodHandle" ∧ yX5_painted.cls ≠ "java/lang/invoke/VarHandle" ∧ (parseMethodDescriptor yX5_painted.desc).map (fun d => d.parameters.length) = some 3 := by decide +kernel
theorem hdc_X5_quarter : yX5_quarter.cls = RX5 ∧ yX5_quarter.cls ≠ "java/lang/invoke/MethodHandle" ∧ yX5_quarter.cls ≠ "java/lang/invoke/VarHandle" ∧ (parseMethodDescriptor yX5_quarter.desc).map (fun d => d.parameters.length) = some 2 := by decide +kernel
theorem hdc_X5_read : yX5_read.cls = RX5 ∧ yX5_read.cls ≠ "java/lang/invoke/MethodHandle" ∧ yX5_read.cls ≠ "java/lang/invoke/VarHandle" ∧ (parseMethodDescriptor yX5_read.desc).map (fun d => d.parameters.length) = some 0 := by decide +kernel
theorem hdc_X5_readCube : yX5_readCube.cls = RX5 ∧ yX5_readCube.cls ≠ "java/lang/invoke/MethodHandle" ∧ yX5_readCube.cls ≠ "java/lang/invoke/VarHandle" ∧ (parseMethodDescriptor yX5_readCube.desc).map (fun d => d.parameters.length) = some 1 := by decide +kernel
theorem hdc_X5_repaint : yX5_repaint.cls = RX5 ∧ yX5_repaint.cls ≠ "java/lang/invoke/MethodHandle" ∧ yX5_repaint.cls ≠ "java/lang/invoke/VarHandle" ∧ (parseMethodDescriptor yX5_repaint.desc).map (fun d => d.parameters.length) = some 0 := by decide +kernel
theorem hdc_X5_repaintNow : yX5_repaintNow.cls = RX5 ∧ yX5_repaintNow.cls ≠ "java/lang/invoke/MethodHandle" ∧ yX5_repaintNow.cls ≠ "java/lang/invoke/VarHandle" ∧ (parseMethodDescriptor yX5_repaintNow.desc).map (fun d => d.parameters.length) = some 0 := by decide +kernel
theorem hdc_X5_restore : yX5_restore.cls = RX5 ∧ yX5_restore.cls ≠ "java/lang/invoke/MethodHandle" ∧ yX5_restore.cls ≠ "java/lang/invoke/VarHandle" ∧ (parseMethodDescriptor yX5_restore.desc).map (fun d => d.parameters.length) = some 0 := by decide +kernel
theorem hdc_X5_ring : yX5_ring.cls = RX5 ∧ yX5_ring.cls ≠ "java/lang/invoke/MethodHandle" ∧ yX5_ring.cls ≠ "java/lang/invoke/VarHandle" ∧ (parseMethodDescriptor yX5_ring.desc).map (fun d => d.parameters.length) = some 5 := by decide +kernel
theorem hdc_X5_runs : yX5_runs.cls = RX5 ∧ yX5_runs.cls ≠ "java/lang/invoke/MethodHandle" ∧ yX5_runs.cls ≠ "java/lang/invoke/VarHandle" ∧ (parseMethodDescriptor yX5_runs.desc).map (fun d => d.parameters.length) = some 3 := by decide +kernel
theorem hdc_X5_runsNow : yX5_runsNow.cls = RX5 ∧ yX5_runsNow.cls ≠ "java/lang/invoke/MethodHandle" ∧ yX5_runsNow.cls ≠ "java/lang/invoke/VarHandle" ∧ (parseMethodDescriptor yX5_runsNow.desc).map (fun d => d.parameters.length) = some 3 := by decide +kernel
theorem hdc_X5_same : yX5_same.cls = RX5 ∧ yX5_same.cls ≠ "java/lang/invoke/MethodHandle" ∧ yX5_same.cls ≠ "java/lang/invoke/VarHandle" ∧ (parseMethodDescriptor yX5_same.desc).map (fun d => d.parameters.length) = some 3 := by decide +kernel
theorem hdc_X5_second : yX5_second.cls = RX5 ∧ yX5_second.cls ≠ "java/lang/invoke/MethodHandle" ∧ yX5_second.cls ≠ "java/lang/invoke/VarHandle" ∧ (parseMethodDescriptor yX5_second.desc).map (fun d => d.parameters.length) = some 1 := by decide +kernel
theorem hdc_X5_see : yX5_see.cls = RX5 ∧ yX5_see.cls ≠ "java/lang/invoke/MethodHandle" ∧ yX5_see.cls ≠ "java/lang/invoke/VarHandle" ∧ (parseMethodDescriptor yX5_see.desc).map (fun d => d.parameters.length) = some 3 := by decide +kernel
theorem hdc_X5_side : yX5_side.cls = RX5 ∧ yX5_side.cls ≠ "java/lang/invoke/MethodHandle" ∧ yX5_side.cls ≠ "java/lang/invoke/VarHandle" ∧ (parseMethodDescriptor yX5_side.desc).map (fun d => d.parameters.length) = some 2 := by decide +kernel
theorem hdc_X5_size : yX5_size.cls = RX5 ∧ yX5_size.cls ≠ "java/lang/invoke/MethodHandle" ∧ yX5_size.cls ≠ "java/lang/invoke/VarHandle" ∧ (parseMethodDescriptor yX5_size.desc).map (fun d => d.parameters.length) = some 1 := by decide +kernel
theorem hdc_X5_solutions : yX5_solutions.cls = RX5 ∧ yX5_solutions.cls ≠ "java/lang/invoke/MethodHandle" ∧ yX5_solutions.cls ≠ "java/lang/invoke/VarHandle" ∧ (parseMethodDescriptor yX5_solutions.desc).map (fun d => d.parameters.length) = some 0 := by decide +kernel
theorem hdc_X5_sortsOf : yX5_sortsOf.cls = RX5 ∧ yX5_sortsOf.cls ≠ "java/lang/invoke/MethodHandle" ∧ yX5_sortsOf.cls ≠ "java/lang/invoke/VarHandle" ∧ (parseMethodDescriptor yX5_sortsOf.desc).map (fun d => d.parameters.length) = some 1 := by decide +kernel
theorem hdc_X5_swap : yX5_swap.cls = RX5 ∧ yX5_swap.cls ≠ "java/lang/invoke/MethodHandle" ∧ yX5_swap.cls ≠ "java/lang/invoke/VarHandle" ∧ (parseMethodDescriptor yX5_swap.desc).map (fun d => d.parameters.length) = some 2 := by decide +kernel
theorem hdc_X5_take : yX5_take.cls = RX5 ∧ yX5_take.cls ≠ "java/lang/invoke/MethodHandle" ∧ yX5_take.cls ≠ "java/lang/invoke/VarHandle" ∧ (parseMethodDescriptor yX5_take.desc).map (fun d => d.parameters.length) = some 3 := by decide +kernel
theorem hdc_X5_third : yX5_third.cls = RX5 ∧ yX5_third.cls ≠ "java/lang/invoke/MethodHandle" ∧ yX5_third.cls ≠ "java/lang/invoke/VarHandle" ∧ (parseMethodDescriptor yX5_third.desc).map (fun d => d.parameters.length) = some 1 := by decide +kernel
theorem hdc_X5_tower : yX5_tower.cls = RX5 ∧ yX5_tower.cls ≠ "java/lang/invoke/MethodHandle" ∧ yX5_tower.cls ≠ "java/lang/invoke/VarHandle" ∧ (parseMethodDescriptor yX5_tower.desc).map (fun d => d.parameters.length) = some 0 := by decide +kernel
theorem hdc_X5_turn : yX5_turn.cls = RX5 ∧ yX5_turn.cls ≠ "java/lang/invoke/MethodHandle" ∧ yX5_turn.cls ≠ "java/lang/invoke/VarHandle" ∧ (parseMethodDescriptor yX5_turn.desc).map (fun d => d.parameters.length) = some 2 := by decide +kernel
theorem hdc_X5_turned : yX5_turned.cls = RX5 ∧ yX5_turned.cls ≠ "java/lang/invoke/MethodHandle" ∧ yX5_turned.cls ≠ "java/lang/invoke/VarHandle" ∧ (parseMethodDescriptor yX5_turned.desc).map (fun d => d.parameters.length) = some 3 := by decide +kernel
theorem hdc_X5_turning : yX5_turning.cls = RX5 ∧ yX5_turning.cls ≠ "java/lang/invoke/MethodHandle" ∧ yX5_turning.cls ≠ "java/lang/invoke/VarHandle" ∧ (parseMethodDescriptor yX5_turning.desc).map (fun d => d.parameters.length) = some 1 := by decide +kernel
theorem hdc_X5_turningNow : yX5_turningNow.cls = RX5 ∧ yX5_turningNow.cls ≠ "java/lang/invoke/MethodHandle" ∧ yX5_turningNow.cls ≠ "java/lang/invoke/VarHandle" ∧ (parseMethodDescriptor yX5_turningNow.desc).map (fun d => d.parameters.length) = some 1 := by decide +kernel
theorem hdc_X5_turnsOf : yX5_turnsOf.cls = RX5 ∧ yX5_turnsOf.cls ≠ "java/lang/invoke/MethodHandle" ∧ yX5_turnsOf.cls ≠ "java/lang/invoke/VarHandle" ∧ (parseMethodDescriptor yX5_turnsOf.desc).map (fun d => d.parameters.length) = some 1 := by decide +kernel
theorem hdc_X5_wall : yX5_wall.cls = RX5 ∧ yX5_wall.cls ≠ "java/lang/invoke/MethodHandle" ∧ yX5_wall.cls ≠ "java/lang/invoke/VarHandle" ∧ (parseMethodDescriptor yX5_wall.desc).map (fun d => d.parameters.length) = some 2 := by decide +kernel
theorem hdc_X5_wallNow : yX5_wallNow.cls = RX5 ∧ yX5_wallNow.cls ≠ "java/lang/invoke/MethodHandle" ∧ yX5_wallNow.cls ≠ "java/lang/invoke/VarHandle" ∧ (parseMethodDescriptor yX5_wallNow.desc).map (fun d => d.parameters.length) = some 2 := by decide +kernel
theorem hdc_X5_ways : yX5_ways.cls = RX5 ∧ yX5_ways.cls ≠ "java/lang/invoke/MethodHandle" ∧ yX5_ways.cls ≠ "java/lang/invoke/VarHandle" ∧ (parseMethodDescriptor yX5_ways.desc).map (fun d => d.parameters.length) = some 1 := by decide +kernel
theorem hdc_X5_waysNow : yX5_waysNow.cls = RX5 ∧ yX5_waysNow.cls ≠ "java/lang/invoke/MethodHandle" ∧ yX5_waysNow.cls ≠ "java/lang/invoke/VarHandle" ∧ (parseMethodDescriptor yX5_waysNow.desc).map (fun d => d.parameters.length) = some 1 := by decide +kernel
theorem hdc_X5_waysOf : yX5_waysOf.cls = RX5 ∧ yX5_waysOf.cls ≠ "java/lang/invoke/MethodHandle" ∧ yX5_waysOf.cls ≠ "java/lang/invoke/VarHandle" ∧ (parseMethodDescriptor yX5_waysOf.desc).map (fun d => d.parameters.length) = some 1 := by decide +kernel
theorem hdc_X5_within : yX5_within.cls = RX5 ∧ yX5_within.cls ≠ "java/lang/invoke/MethodHandle" ∧ yX5_within.cls ≠ "java/lang/invoke/VarHandle" ∧ (parseMethodDescriptor yX5_within.desc).map (fun d => d.parameters.length) = some 3 := by decide +kernel
