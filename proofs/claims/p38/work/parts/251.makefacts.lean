/-! by program: words, fields and calls of constructors and of the law -/
def vt0 : List (Nat × Cond) := [(422, Cond.methodLink RX6 3 Lib.objectInit), (346, Cond.instanceMethod Lib.objectInit), (347, Cond.code Lib.objectInit ⟨#[0xb1]⟩ 1 none), (396, Cond.arrayClass .int), (423, Cond.fieldLink RX6 9 "FortressWatch$Sights" "row" "[I"), (439, Cond.methodLink RX0 3 Lib.objectInit), (440, Cond.fieldLink RX0 9 "FortressWatch$Chooser" "seenBySet" "[I"), (441, Cond.fieldLink RX0 15 "FortressWatch$Chooser" "seers" "[I"), (463, Cond.methodLink RX1 3 Lib.objectInit), (464, Cond.fieldLink RX1 9 "FortressWatch$Gaps" "first" "[I"), (465, Cond.fieldLink RX1 15 "FortressWatch$Gaps" "length" "[I"), (479, Cond.methodLink RX3 3 Lib.objectInit), (480, Cond.fieldLink RX3 9 "FortressWatch$Order" "key" "[I"), (489, Cond.methodLink RX7 3 Lib.objectInit), (490, Cond.fieldLink RX7 9 "FortressWatch$Text" "codes" "[I"), (522, Cond.methodLink RX2 3 Lib.objectInit), (523, Cond.fieldLink RX2 9 "FortressWatch$Line" "codes" "[I"), (534, Cond.methodLink RX5 3 Lib.objectInit), (352, Cond.methodLink RX8 3 Lib.objectInit), (353, Cond.fieldLink RX8 9 "FortressWatch$Wall" "stone" "[I"), (354, Cond.fieldLink RX8 15 "FortressWatch$Wall" "left" "[I"), (356, Cond.fieldLink RX8 18 "FortressWatch$Wall" "right" "[I"), (358, Cond.fieldLink RX8 21 "FortressWatch$Wall" "blindFrom" "[I"), (360, Cond.fieldLink RX8 24 "FortressWatch$Wall" "blindMany" "[I"), (362, Cond.fieldLink RX8 27 "FortressWatch$Wall" "manned" "[I"), (123, Cond.code yX8_empty cX8_empty 2 none), (120, Cond.methodLink RX8 30 yX8_empty), (122, Cond.instanceMethod yX8_empty), (5, Cond.selects RX8 yX8_empty yX8_empty), (30, Cond.initialized RX8)]
set_option maxRecDepth 20000 in
theorem Vt0 : vt0.all (fun q => decide (lw_tbl[q.1]? = some q.2) && goodWord q.2) = true := by decide +kernel
theorem v_422 : Cond.methodLink RX6 3 Lib.objectInit ∈ TB := qg Vt0 0 rfl
theorem v_346 : Cond.instanceMethod Lib.objectInit ∈ TB := qg Vt0 1 rfl
theorem v_347 : Cond.code Lib.objectInit ⟨#[0xb1]⟩ 1 none ∈ TB := qg Vt0 2 rfl
theorem v_396 : Cond.arrayClass .int ∈ TB := qg Vt0 3 rfl
theorem v_423 : Cond.fieldLink RX6 9 "FortressWatch$Sights" "row" "[I" ∈ TB := qg Vt0 4 rfl
theorem v_439 : Cond.methodLink RX0 3 Lib.objectInit ∈ TB := qg Vt0 5 rfl
theorem v_440 : Cond.fieldLink RX0 9 "FortressWatch$Chooser" "seenBySet" "[I" ∈ TB := qg Vt0 6 rfl
theorem v_441 : Cond.fieldLink RX0 15 "FortressWatch$Chooser" "seers" "[I" ∈ TB := qg Vt0 7 rfl
theorem v_463 : Cond.methodLink RX1 3 Lib.objectInit ∈ TB := qg Vt0 8 rfl
theorem v_464 : Cond.fieldLink RX1 9 "FortressWatch$Gaps" "first" "[I" ∈ TB := qg Vt0 9 rfl
theorem v_465 : Cond.fieldLink RX1 15 "FortressWatch$Gaps" "length" "[I" ∈ TB := qg Vt0 10 rfl
theorem v_479 : Cond.methodLink RX3 3 Lib.objectInit ∈ TB := qg Vt0 11 rfl
theorem v_480 : Cond.fieldLink RX3 9 "FortressWatch$Order" "key" "[I" ∈ TB := qg Vt0 12 rfl
theorem v_489 : Cond.methodLink RX7 3 Lib.objectInit ∈ TB := qg Vt0 13 rfl
theorem v_490 : Cond.fieldLink RX7 9 "FortressWatch$Text" "codes" "[I" ∈ TB := qg Vt0 14 rfl
theorem v_522 : Cond.methodLink RX2 3 Lib.objectInit ∈ TB := qg Vt0 15 rfl
theorem v_523 : Cond.fieldLink RX2 9 "FortressWatch$Line" "codes" "[I" ∈ TB := qg Vt0 16 rfl
theorem v_534 : Cond.methodLink RX5 3 Lib.objectInit ∈ TB := qg Vt0 17 rfl
theorem v_352 : Cond.methodLink RX8 3 Lib.objectInit ∈ TB := qg Vt0 18 rfl
theorem v_353 : Cond.fieldLink RX8 9 "FortressWatch$Wall" "stone" "[I" ∈ TB := qg Vt0 19 rfl
theorem v_354 : Cond.fieldLink RX8 15 "FortressWatch$Wall" "left" "[I" ∈ TB := qg Vt0 20 rfl
theorem v_356 : Cond.fieldLink RX8 18 "FortressWatch$Wall" "right" "[I" ∈ TB := qg Vt0 21 rfl
theorem v_358 : Cond.fieldLink RX8 21 "FortressWatch$Wall" "blindFrom" "[I" ∈ TB := qg Vt0 22 rfl
theorem v_360 : Cond.fieldLink RX8 24 "FortressWatch$Wall" "blindMany" "[I" ∈ TB := qg Vt0 23 rfl
theorem v_362 : Cond.fieldLink RX8 27 "FortressWatch$Wall" "manned" "[I" ∈ TB := qg Vt0 24 rfl
theorem v_123 : Cond.code yX8_empty cX8_empty 2 none ∈ TB := qg Vt0 25 rfl
theorem v_120 : Cond.methodLink RX8 30 yX8_empty ∈ TB := qg Vt0 26 rfl
theorem v_122 : Cond.instanceMethod yX8_empty ∈ TB := qg Vt0 27 rfl
theorem v_5 : Cond.selects RX8 yX8_empty yX8_empty ∈ TB := qg Vt0 28 rfl
theorem v_30 : Cond.initialized RX8 ∈ TB := qg Vt0 29 rfl
def vt1 : List (Nat × Cond) := [(406, Cond.fieldLink RX4 11 "FortressWatch$Past" "walls" "[LFortressWatch$Wall;"), (403, Cond.classLink RX4 9 RX8), (62, Cond.instantiable RX8 11), (351, Cond.code yX8_init cX8_init 2 none), (405, Cond.methodLink RX4 17 yX8_init), (350, Cond.instanceMethod yX8_init), (402, Cond.methodLink RX4 3 Lib.objectInit), (345, Cond.methodLink RX9 1 Lib.objectInit), (348, Cond.classLink RX9 7 RX8), (349, Cond.methodLink RX9 9 yX8_init), (545, Cond.fieldLink RX9 10 "FortressWatch" "wall" "LFortressWatch$Wall;"), (546, Cond.fieldLink RX9 16 "FortressWatch" "before" "LFortressWatch$Wall;"), (547, Cond.fieldLink RX9 19 "FortressWatch" "snapshot" "LFortressWatch$Wall;"), (397, Cond.classLink RX9 22 RX4), (398, Cond.instantiable RX4 3), (31, Cond.initialized RX4), (401, Cond.code yX4_init cX4_init 2 none), (399, Cond.methodLink RX9 24 yX4_init), (400, Cond.instanceMethod yX4_init), (548, Cond.fieldLink RX9 25 "FortressWatch" "past" "LFortressWatch$Past;"), (417, Cond.classLink RX9 29 RX6), (418, Cond.instantiable RX6 3), (32, Cond.initialized RX6), (421, Cond.code yX6_init cX6_init 1 none), (420, Cond.instanceMethod yX6_init), (549, Cond.fieldLink RX9 32 "FortressWatch" "sights" "LFortressWatch$Sights;"), (435, Cond.classLink RX9 36 RX0), (169, Cond.instantiable RX0 5), (33, Cond.initialized RX0), (438, Cond.code yX0_init cX0_init 1 none)]
set_option maxRecDepth 20000 in
theorem Vt1 : vt1.all (fun q => decide (lw_tbl[q.1]? = some q.2) && goodWord q.2) = true := by decide +kernel
theorem v_406 : Cond.fieldLink RX4 11 "FortressWatch$Past" "walls" "[LFortressWatch$Wall;" ∈ TB := qg Vt1 0 rfl
theorem v_403 : Cond.classLink RX4 9 RX8 ∈ TB := qg Vt1 1 rfl
theorem v_62 : Cond.instantiable RX8 11 ∈ TB := qg Vt1 2 rfl
theorem v_351 : Cond.code yX8_init cX8_init 2 none ∈ TB := qg Vt1 3 rfl
theorem v_405 : Cond.methodLink RX4 17 yX8_init ∈ TB := qg Vt1 4 rfl
theorem v_350 : Cond.instanceMethod yX8_init ∈ TB := qg Vt1 5 rfl
theorem v_402 : Cond.methodLink RX4 3 Lib.objectInit ∈ TB := qg Vt1 6 rfl
theorem v_345 : Cond.methodLink RX9 1 Lib.objectInit ∈ TB := qg Vt1 7 rfl
theorem v_348 : Cond.classLink RX9 7 RX8 ∈ TB := qg Vt1 8 rfl
theorem v_349 : Cond.methodLink RX9 9 yX8_init ∈ TB := qg Vt1 9 rfl
theorem v_545 : Cond.fieldLink RX9 10 "FortressWatch" "wall" "LFortressWatch$Wall;" ∈ TB := qg Vt1 10 rfl
theorem v_546 : Cond.fieldLink RX9 16 "FortressWatch" "before" "LFortressWatch$Wall;" ∈ TB := qg Vt1 11 rfl
theorem v_547 : Cond.fieldLink RX9 19 "FortressWatch" "snapshot" "LFortressWatch$Wall;" ∈ TB := qg Vt1 12 rfl
theorem v_397 : Cond.classLink RX9 22 RX4 ∈ TB := qg Vt1 13 rfl
theorem v_398 : Cond.instantiable RX4 3 ∈ TB := qg Vt1 14 rfl
theorem v_31 : Cond.initialized RX4 ∈ TB := qg Vt1 15 rfl
theorem v_401 : Cond.code yX4_init cX4_init 2 none ∈ TB := qg Vt1 16 rfl
theorem v_399 : Cond.methodLink RX9 24 yX4_init ∈ TB := qg Vt1 17 rfl
theorem v_400 : Cond.instanceMethod yX4_init ∈ TB := qg Vt1 18 rfl
theorem v_548 : Cond.fieldLink RX9 25 "FortressWatch" "past" "LFortressWatch$Past;" ∈ TB := qg Vt1 19 rfl
theorem v_417 : Cond.classLink RX9 29 RX6 ∈ TB := qg Vt1 20 rfl
theorem v_418 : Cond.instantiable RX6 3 ∈ TB := qg Vt1 21 rfl
theorem v_32 : Cond.initialized RX6 ∈ TB := qg Vt1 22 rfl
theorem v_421 : Cond.code yX6_init cX6_init 1 none ∈ TB := qg Vt1 23 rfl
theorem v_420 : Cond.instanceMethod yX6_init ∈ TB := qg Vt1 24 rfl
theorem v_549 : Cond.fieldLink RX9 32 "FortressWatch" "sights" "LFortressWatch$Sights;" ∈ TB := qg Vt1 25 rfl
theorem v_435 : Cond.classLink RX9 36 RX0 ∈ TB := qg Vt1 26 rfl
theorem v_169 : Cond.instantiable RX0 5 ∈ TB := qg Vt1 27 rfl
theorem v_33 : Cond.initialized RX0 ∈ TB := qg Vt1 28 rfl
theorem v_438 : Cond.code yX0_init cX0_init 1 none ∈ TB := qg Vt1 29 rfl
def vt2 : List (Nat × Cond) := [(437, Cond.instanceMethod yX0_init), (550, Cond.fieldLink RX9 39 "FortressWatch" "chooser" "LFortressWatch$Chooser;"), (459, Cond.classLink RX9 43 RX1), (285, Cond.instantiable RX1 3), (34, Cond.initialized RX1), (462, Cond.code yX1_init cX1_init 1 none), (461, Cond.instanceMethod yX1_init), (551, Cond.fieldLink RX9 46 "FortressWatch" "gaps" "LFortressWatch$Gaps;"), (475, Cond.classLink RX9 50 RX3), (264, Cond.instantiable RX3 1), (35, Cond.initialized RX3), (478, Cond.code yX3_init cX3_init 1 none), (477, Cond.instanceMethod yX3_init), (552, Cond.fieldLink RX9 53 "FortressWatch" "order" "LFortressWatch$Order;"), (484, Cond.classLink RX9 57 RX7), (485, Cond.instantiable RX7 7), (36, Cond.initialized RX7), (488, Cond.code yX7_init cX7_init 1 none), (487, Cond.instanceMethod yX7_init), (553, Cond.fieldLink RX9 60 "FortressWatch" "text" "LFortressWatch$Text;"), (517, Cond.classLink RX9 64 RX2), (518, Cond.instantiable RX2 2), (37, Cond.initialized RX2), (521, Cond.code yX2_init cX2_init 1 none), (520, Cond.instanceMethod yX2_init), (554, Cond.fieldLink RX9 67 "FortressWatch" "line" "LFortressWatch$Line;"), (529, Cond.classLink RX9 71 RX5), (530, Cond.instantiable RX5 3), (38, Cond.initialized RX5), (533, Cond.code yX5_init cX5_init 1 none)]
set_option maxRecDepth 20000 in
theorem Vt2 : vt2.all (fun q => decide (lw_tbl[q.1]? = some q.2) && goodWord q.2) = true := by decide +kernel
theorem v_437 : Cond.instanceMethod yX0_init ∈ TB := qg Vt2 0 rfl
theorem v_550 : Cond.fieldLink RX9 39 "FortressWatch" "chooser" "LFortressWatch$Chooser;" ∈ TB := qg Vt2 1 rfl
theorem v_459 : Cond.classLink RX9 43 RX1 ∈ TB := qg Vt2 2 rfl
theorem v_285 : Cond.instantiable RX1 3 ∈ TB := qg Vt2 3 rfl
theorem v_34 : Cond.initialized RX1 ∈ TB := qg Vt2 4 rfl
theorem v_462 : Cond.code yX1_init cX1_init 1 none ∈ TB := qg Vt2 5 rfl
theorem v_461 : Cond.instanceMethod yX1_init ∈ TB := qg Vt2 6 rfl
theorem v_551 : Cond.fieldLink RX9 46 "FortressWatch" "gaps" "LFortressWatch$Gaps;" ∈ TB := qg Vt2 7 rfl
theorem v_475 : Cond.classLink RX9 50 RX3 ∈ TB := qg Vt2 8 rfl
theorem v_264 : Cond.instantiable RX3 1 ∈ TB := qg Vt2 9 rfl
theorem v_35 : Cond.initialized RX3 ∈ TB := qg Vt2 10 rfl
theorem v_478 : Cond.code yX3_init cX3_init 1 none ∈ TB := qg Vt2 11 rfl
theorem v_477 : Cond.instanceMethod yX3_init ∈ TB := qg Vt2 12 rfl
theorem v_552 : Cond.fieldLink RX9 53 "FortressWatch" "order" "LFortressWatch$Order;" ∈ TB := qg Vt2 13 rfl
theorem v_484 : Cond.classLink RX9 57 RX7 ∈ TB := qg Vt2 14 rfl
theorem v_485 : Cond.instantiable RX7 7 ∈ TB := qg Vt2 15 rfl
theorem v_36 : Cond.initialized RX7 ∈ TB := qg Vt2 16 rfl
theorem v_488 : Cond.code yX7_init cX7_init 1 none ∈ TB := qg Vt2 17 rfl
theorem v_487 : Cond.instanceMethod yX7_init ∈ TB := qg Vt2 18 rfl
theorem v_553 : Cond.fieldLink RX9 60 "FortressWatch" "text" "LFortressWatch$Text;" ∈ TB := qg Vt2 19 rfl
theorem v_517 : Cond.classLink RX9 64 RX2 ∈ TB := qg Vt2 20 rfl
theorem v_518 : Cond.instantiable RX2 2 ∈ TB := qg Vt2 21 rfl
theorem v_37 : Cond.initialized RX2 ∈ TB := qg Vt2 22 rfl
theorem v_521 : Cond.code yX2_init cX2_init 1 none ∈ TB := qg Vt2 23 rfl
theorem v_520 : Cond.instanceMethod yX2_init ∈ TB := qg Vt2 24 rfl
theorem v_554 : Cond.fieldLink RX9 67 "FortressWatch" "line" "LFortressWatch$Line;" ∈ TB := qg Vt2 25 rfl
theorem v_529 : Cond.classLink RX9 71 RX5 ∈ TB := qg Vt2 26 rfl
theorem v_530 : Cond.instantiable RX5 3 ∈ TB := qg Vt2 27 rfl
theorem v_38 : Cond.initialized RX5 ∈ TB := qg Vt2 28 rfl
theorem v_533 : Cond.code yX5_init cX5_init 1 none ∈ TB := qg Vt2 29 rfl
def vt3 : List (Nat × Cond) := [(532, Cond.instanceMethod yX5_init), (555, Cond.fieldLink RX9 74 "FortressWatch" "refused" "LFortressWatch$Refused;"), (556, Cond.fieldLink RX9 78 "FortressWatch" "hasSnapshot" "Z"), (557, Cond.fieldLink RX9 82 "FortressWatch" "commandNow" "I")]
set_option maxRecDepth 20000 in
theorem Vt3 : vt3.all (fun q => decide (lw_tbl[q.1]? = some q.2) && goodWord q.2) = true := by decide +kernel
theorem v_532 : Cond.instanceMethod yX5_init ∈ TB := qg Vt3 0 rfl
theorem v_555 : Cond.fieldLink RX9 74 "FortressWatch" "refused" "LFortressWatch$Refused;" ∈ TB := qg Vt3 1 rfl
theorem v_556 : Cond.fieldLink RX9 78 "FortressWatch" "hasSnapshot" "Z" ∈ TB := qg Vt3 2 rfl
theorem v_557 : Cond.fieldLink RX9 82 "FortressWatch" "commandNow" "I" ∈ TB := qg Vt3 3 rfl
theorem gX6_9 : Fd8 RX6 9 6 0 := ⟨RX6, TX6, 3, rfl, inX6, tyE6, nmX6, by decide, v_423, rfl⟩
theorem gf6_0 : ∀ C T N', vwCl[6]? = some (C, T, N') → (T 0).2.2.2 = true ∧ parseFieldDescriptor (T 0).2.2.1 = some (.array .int) ∧ C = RX6 := fun C T N h => by cases h; exact ⟨rfl, by decide +kernel, rfl⟩
theorem gX0_9 : Fd8 RX0 9 0 0 := ⟨RX0, TX0, 5, rfl, inX0, tyE0, nmX0, by decide, v_440, rfl⟩
theorem gf0_0 : ∀ C T N', vwCl[0]? = some (C, T, N') → (T 0).2.2.2 = true ∧ parseFieldDescriptor (T 0).2.2.1 = some (.array .int) ∧ C = RX0 := fun C T N h => by cases h; exact ⟨rfl, by decide +kernel, rfl⟩
theorem gX0_15 : Fd8 RX0 15 0 1 := ⟨RX0, TX0, 5, rfl, inX0, tyE0, nmX0, by decide, v_441, rfl⟩
theorem gf0_1 : ∀ C T N', vwCl[0]? = some (C, T, N') → (T 1).2.2.2 = true ∧ parseFieldDescriptor (T 1).2.2.1 = some (.array .int) ∧ C = RX0 := fun C T N h => by cases h; exact ⟨rfl, by decide +kernel, rfl⟩
theorem gX1_9 : Fd8 RX1 9 1 0 := ⟨RX1, TX1, 3, rfl, inX1, tyE1, nmX1, by decide, v_464, rfl⟩
theorem gf1_0 : ∀ C T N', vwCl[1]? = some (C, T, N') → (T 0).2.2.2 = true ∧ parseFieldDescriptor (T 0).2.2.1 = some (.array .int) ∧ C = RX1 := fun C T N h => by cases h; exact ⟨rfl, by decide +kernel, rfl⟩
theorem gX1_15 : Fd8 RX1 15 1 1 := ⟨RX1, TX1, 3, rfl, inX1, tyE1, nmX1, by decide, v_465, rfl⟩
theorem gf1_1 : ∀ C T N', vwCl[1]? = some (C, T, N') → (T 1).2.2.2 = true ∧ parseFieldDescriptor (T 1).2.2.1 = some (.array .int) ∧ C = RX1 := fun C T N h => by cases h; exact ⟨rfl, by decide +kernel, rfl⟩
theorem gX3_9 : Fd8 RX3 9 3 0 := ⟨RX3, TX3, 1, rfl, inX3, tyE3, nmX3, by decide, v_480, rfl⟩
theorem gf3_0 : ∀ C T N', vwCl[3]? = some (C, T, N') → (T 0).2.2.2 = true ∧ parseFieldDescriptor (T 0).2.2.1 = some (.array .int) ∧ C = RX3 := fun C T N h => by cases h; exact ⟨rfl, by decide +kernel, rfl⟩
theorem gX7_9 : Fd8 RX7 9 7 0 := ⟨RX7, TX7, 7, rfl, inX7, tyE7, nmX7, by decide, v_490, rfl⟩
theorem gf7_0 : ∀ C T N', vwCl[7]? = some (C, T, N') → (T 0).2.2.2 = true ∧ parseFieldDescriptor (T 0).2.2.1 = some (.array .int) ∧ C = RX7 := fun C T N h => by cases h; exact ⟨rfl, by decide +kernel, rfl⟩
theorem gX2_9 : Fd8 RX2 9 2 0 := ⟨RX2, TX2, 2, rfl, inX2, tyE2, nmX2, by decide, v_523, rfl⟩
theorem gf2_0 : ∀ C T N', vwCl[2]? = some (C, T, N') → (T 0).2.2.2 = true ∧ parseFieldDescriptor (T 0).2.2.1 = some (.array .int) ∧ C = RX2 := fun C T N h => by cases h; exact ⟨rfl, by decide +kernel, rfl⟩
theorem gX8_9 : Fd8 RX8 9 8 0 := ⟨RX8, TX8, 11, rfl, inX8, tyE8, nmX8, by decide, v_353, rfl⟩
theorem gf8_0 : ∀ C T N', vwCl[8]? = some (C, T, N') → (T 0).2.2.2 = true ∧ parseFieldDescriptor (T 0).2.2.1 = some (.array .int) ∧ C = RX8 := fun C T N h => by cases h; exact ⟨rfl, by decide +kernel, rfl⟩
theorem gX8_15 : Fd8 RX8 15 8 1 := ⟨RX8, TX8, 11, rfl, inX8, tyE8, nmX8, by decide, v_354, rfl⟩
theorem gf8_1 : ∀ C T N', vwCl[8]? = some (C, T, N') → (T 1).2.2.2 = true ∧ parseFieldDescriptor (T 1).2.2.1 = some (.array .int) ∧ C = RX8 := fun C T N h => by cases h; exact ⟨rfl, by decide +kernel, rfl⟩
theorem gX8_18 : Fd8 RX8 18 8 2 := ⟨RX8, TX8, 11, rfl, inX8, tyE8, nmX8, by decide, v_356, rfl⟩
theorem gf8_2 : ∀ C T N', vwCl[8]? = some (C, T, N') → (T 2).2.2.2 = true ∧ parseFieldDescriptor (T 2).2.2.1 = some (.array .int) ∧ C = RX8 := fun C T N h => by cases h; exact ⟨rfl, by decide +kernel, rfl⟩
theorem gX8_21 : Fd8 RX8 21 8 3 := ⟨RX8, TX8, 11, rfl, inX8, tyE8, nmX8, by decide, v_358, rfl⟩
theorem gf8_3 : ∀ C T N', vwCl[8]? = some (C, T, N') → (T 3).2.2.2 = true ∧ parseFieldDescriptor (T 3).2.2.1 = some (.array .int) ∧ C = RX8 := fun C T N h => by cases h; exact ⟨rfl, by decide +kernel, rfl⟩
theorem gX8_24 : Fd8 RX8 24 8 4 := ⟨RX8, TX8, 11, rfl, inX8, tyE8, nmX8, by decide, v_360, rfl⟩
theorem gf8_4 : ∀ C T N', vwCl[8]? = some (C, T, N') → (T 4).2.2.2 = true ∧ parseFieldDescriptor (T 4).2.2.1 = some (.array .int) ∧ C = RX8 := fun C T N h => by cases h; exact ⟨rfl, by decide +kernel, rfl⟩
theorem gX8_27 : Fd8 RX8 27 8 5 := ⟨RX8, TX8, 11, rfl, inX8, tyE8, nmX8, by decide, v_362, rfl⟩
theorem gf8_5 : ∀ C T N', vwCl[8]? = some (C, T, N') → (T 5).2.2.2 = true ∧ parseFieldDescriptor (T 5).2.2.1 = some (.array .int) ∧ C = RX8 := fun C T N h => by cases h; exact ⟨rfl, by decide +kernel, rfl⟩
theorem kkX8_30 : WV RX8 30 RX8 yX8_empty cX8_empty 2 none 1 := ⟨v_123, v_120, v_122, v_5, v_30, by decide +kernel⟩
theorem gX4_11 : Fd8 RX4 11 4 0 := ⟨RX4, TX4, 3, rfl, inX4, tyE4, nmX4, by decide, v_406, rfl⟩
theorem gf4_0 : ∀ C T N', vwCl[4]? = some (C, T, N') → (T 0).2.2.2 = true ∧ parseFieldDescriptor (T 0).2.2.1 = some (.array (.object "FortressWatch$Wall")) ∧ C = RX4 := fun C T N h => by cases h; exact ⟨rfl, by decide +kernel, rfl⟩
theorem df8 {B a : Nat} : ∀ j, j < 11 → defaultValue (tyX8 j) = rv B (([some (a + 1), some (a + 2), some (a + 3), some (a + 4), some (a + 5), some (a + 6), none, none, none, none, none] : List (Option Nat)).getD j none) 0 := fun j hj => by
  rcases (show j = 0 ∨ j = 1 ∨ j = 2 ∨ j = 3 ∨ j = 4 ∨ j = 5 ∨ j = 6 ∨ j = 7 ∨ j = 8 ∨ j = 9 ∨ j = 10 by omega) with rfl | rfl | rfl | rfl | rfl | rfl | rfl | rfl | rfl | rfl | rfl <;> rfl
theorem hX4_17 : WI RX4 17 yX8_init cX8_init 2 := ⟨v_351, v_405, v_350, v_30, rfl, by decide +kernel⟩
theorem hX9_9 : WI RX9 9 yX8_init cX8_init 2 := ⟨v_351, v_349, v_350, v_30, rfl, by decide +kernel⟩
theorem gX9_10 : Fd8 RX9 10 9 0 := ⟨RX9, TX9, 13, rfl, inX9, tyE9, nmX9, by decide, v_545, rfl⟩
theorem gf9_0 : ∀ C T N', vwCl[9]? = some (C, T, N') → (T 0).2.2.2 = true ∧ parseFieldDescriptor (T 0).2.2.1 = some (.object "FortressWatch$Wall") ∧ C = RX9 := fun C T N h => by cases h; exact ⟨rfl, by decide +kernel, rfl⟩
theorem gX9_16 : Fd8 RX9 16 9 1 := ⟨RX9, TX9, 13, rfl, inX9, tyE9, nmX9, by decide, v_546, rfl⟩
theorem gf9_1 : ∀ C T N', vwCl[9]? = some (C, T, N') → (T 1).2.2.2 = true ∧ parseFieldDescriptor (T 1).2.2.1 = some (.object "FortressWatch$Wall") ∧ C = RX9 := fun C T N h => by cases h; exact ⟨rfl, by decide +kernel, rfl⟩
theorem gX9_19 : Fd8 RX9 19 9 2 := ⟨RX9, TX9, 13, rfl, inX9, tyE9, nmX9, by decide, v_547, rfl⟩
theorem gf9_2 : ∀ C T N', vwCl[9]? = some (C, T, N') → (T 2).2.2.2 = true ∧ parseFieldDescriptor (T 2).2.2.1 = some (.object "FortressWatch$Wall") ∧ C = RX9 := fun C T N h => by cases h; exact ⟨rfl, by decide +kernel, rfl⟩
theorem df4 {B : Nat} : ∀ j, j < 3 → defaultValue (tyX4 j) = rv B (([.some 23, .none, .none] : List (Option Nat)).getD j none) 0 := fun j hj => by
  rcases (show j = 0 ∨ j = 1 ∨ j = 2 by omega) with rfl | rfl | rfl <;> rfl
theorem hX9_24 : WI RX9 24 yX4_init cX4_init 2 := ⟨v_401, v_399, v_400, v_31, rfl, by decide +kernel⟩
theorem gX9_25 : Fd8 RX9 25 9 3 := ⟨RX9, TX9, 13, rfl, inX9, tyE9, nmX9, by decide, v_548, rfl⟩
theorem gf9_3 : ∀ C T N', vwCl[9]? = some (C, T, N') → (T 3).2.2.2 = true ∧ parseFieldDescriptor (T 3).2.2.1 = some (.object "FortressWatch$Past") ∧ C = RX9 := fun C T N h => by cases h; exact ⟨rfl, by decide +kernel, rfl⟩
theorem df6 {B : Nat} : ∀ j, j < 3 → defaultValue (tyX6 j) = rv B (([.some 81, .none, .none] : List (Option Nat)).getD j none) 0 := fun j hj => by
  rcases (show j = 0 ∨ j = 1 ∨ j = 2 by omega) with rfl | rfl | rfl <;> rfl
theorem hX9_31 : WIN RX9 31 RX9 yX6_init cX6_init 1 := ⟨v_421, List.mem_of_getElem? (i := 4) rfl, v_420, v_32, rfl, by decide +kernel⟩
theorem gX9_32 : Fd8 RX9 32 9 4 := ⟨RX9, TX9, 13, rfl, inX9, tyE9, nmX9, by decide, v_549, rfl⟩
theorem gf9_4 : ∀ C T N', vwCl[9]? = some (C, T, N') → (T 4).2.2.2 = true ∧ parseFieldDescriptor (T 4).2.2.1 = some (.object "FortressWatch$Sights") ∧ C = RX9 := fun C T N h => by cases h; exact ⟨rfl, by decide +kernel, rfl⟩
theorem df0 {B : Nat} : ∀ j, j < 5 → defaultValue (tyX0 j) = rv B (([.some 83, .some 84, .none, .none, .none] : List (Option Nat)).getD j none) 0 := fun j hj => by
  rcases (show j = 0 ∨ j = 1 ∨ j = 2 ∨ j = 3 ∨ j = 4 by omega) with rfl | rfl | rfl | rfl | rfl <;> rfl
theorem hX9_38 : WIN RX9 38 RX9 yX0_init cX0_init 1 := ⟨v_438, List.mem_of_getElem? (i := 5) rfl, v_437, v_33, rfl, by decide +kernel⟩
theorem gX9_39 : Fd8 RX9 39 9 5 := ⟨RX9, TX9, 13, rfl, inX9, tyE9, nmX9, by decide, v_550, rfl⟩
theorem gf9_5 : ∀ C T N', vwCl[9]? = some (C, T, N') → (T 5).2.2.2 = true ∧ parseFieldDescriptor (T 5).2.2.1 = some (.object "FortressWatch$Chooser") ∧ C = RX9 := fun C T N h => by cases h; exact ⟨rfl, by decide +kernel, rfl⟩
theorem df1 {B : Nat} : ∀ j, j < 3 → defaultValue (tyX1 j) = rv B (([.some 86, .some 87, .none] : List (Option Nat)).getD j none) 0 := fun j hj => by
  rcases (show j = 0 ∨ j = 1 ∨ j = 2 by omega) with rfl | rfl | rfl <;> rfl
theorem hX9_45 : WIN RX9 45 RX9 yX1_init cX1_init 1 := ⟨v_462, List.mem_of_getElem? (i := 6) rfl, v_461, v_34, rfl, by decide +kernel⟩
theorem gX9_46 : Fd8 RX9 46 9 6 := ⟨RX9, TX9, 13, rfl, inX9, tyE9, nmX9, by decide, v_551, rfl⟩
theorem gf9_6 : ∀ C T N', vwCl[9]? = some (C, T, N') → (T 6).2.2.2 = true ∧ parseFieldDescriptor (T 6).2.2.1 = some (.object "FortressWatch$Gaps") ∧ C = RX9 := fun C T N h => by cases h; exact ⟨rfl, by decide +kernel, rfl⟩
theorem df3 {B : Nat} : ∀ j, j < 1 → defaultValue (tyX3 j) = rv B (([.some 89] : List (Option Nat)).getD j none) 0 := fun j hj => by
  rcases (show j = 0 by omega) with rfl <;> rfl
theorem hX9_52 : WIN RX9 52 RX9 yX3_init cX3_init 1 := ⟨v_478, List.mem_of_getElem? (i := 7) rfl, v_477, v_35, rfl, by decide +kernel⟩
theorem gX9_53 : Fd8 RX9 53 9 7 := ⟨RX9, TX9, 13, rfl, inX9, tyE9, nmX9, by decide, v_552, rfl⟩
theorem gf9_7 : ∀ C T N', vwCl[9]? = some (C, T, N') → (T 7).2.2.2 = true ∧ parseFieldDescriptor (T 7).2.2.1 = some (.object "FortressWatch$Order") ∧ C = RX9 := fun C T N h => by cases h; exact ⟨rfl, by decide +kernel, rfl⟩
theorem df7 {B : Nat} : ∀ j, j < 7 → defaultValue (tyX7 j) = rv B (([.some 91, .none, .none, .none, .none, .none, .none] : List (Option Nat)).getD j none) 0 := fun j hj => by
  rcases (show j = 0 ∨ j = 1 ∨ j = 2 ∨ j = 3 ∨ j = 4 ∨ j = 5 ∨ j = 6 by omega) with rfl | rfl | rfl | rfl | rfl | rfl | rfl <;> rfl
theorem hX9_59 : WIN RX9 59 RX9 yX7_init cX7_init 1 := ⟨v_488, List.mem_of_getElem? (i := 8) rfl, v_487, v_36, rfl, by decide +kernel⟩
theorem gX9_60 : Fd8 RX9 60 9 8 := ⟨RX9, TX9, 13, rfl, inX9, tyE9, nmX9, by decide, v_553, rfl⟩
theorem gf9_8 : ∀ C T N', vwCl[9]? = some (C, T, N') → (T 8).2.2.2 = true ∧ parseFieldDescriptor (T 8).2.2.1 = some (.object "FortressWatch$Text") ∧ C = RX9 := fun C T N h => by cases h; exact ⟨rfl, by decide +kernel, rfl⟩
theorem df2 {B : Nat} : ∀ j, j < 2 → defaultValue (tyX2 j) = rv B (([.some 93, .none] : List (Option Nat)).getD j none) 0 := fun j hj => by
  rcases (show j = 0 ∨ j = 1 by omega) with rfl | rfl <;> rfl
theorem hX9_66 : WIN RX9 66 RX9 yX2_init cX2_init 1 := ⟨v_521, List.mem_of_getElem? (i := 9) rfl, v_520, v_37, rfl, by decide +kernel⟩
theorem gX9_67 : Fd8 RX9 67 9 9 := ⟨RX9, TX9, 13, rfl, inX9, tyE9, nmX9, by decide, v_554, rfl⟩
theorem gf9_9 : ∀ C T N', vwCl[9]? = some (C, T, N') → (T 9).2.2.2 = true ∧ parseFieldDescriptor (T 9).2.2.1 = some (.object "FortressWatch$Line") ∧ C = RX9 := fun C T N h => by cases h; exact ⟨rfl, by decide +kernel, rfl⟩
theorem df5 {B : Nat} : ∀ j, j < 3 → defaultValue (tyX5 j) = rv B (([.none, .none, .none] : List (Option Nat)).getD j none) 0 := fun j hj => by
  rcases (show j = 0 ∨ j = 1 ∨ j = 2 by omega) with rfl | rfl | rfl <;> rfl
theorem hX9_73 : WIN RX9 73 RX9 yX5_init cX5_init 1 := ⟨v_533, List.mem_of_getElem? (i := 10) rfl, v_532, v_38, rfl, by decide +kernel⟩
theorem gX9_74 : Fd8 RX9 74 9 10 := ⟨RX9, TX9, 13, rfl, inX9, tyE9, nmX9, by decide, v_555, rfl⟩
theorem gf9_10 : ∀ C T N', vwCl[9]? = some (C, T, N') → (T 10).2.2.2 = true ∧ parseFieldDescriptor (T 10).2.2.1 = some (.object "FortressWatch$Refused") ∧ C = RX9 := fun C T N h => by cases h; exact ⟨rfl, by decide +kernel, rfl⟩
theorem gX9_78 : Fd8 RX9 78 9 11 := ⟨RX9, TX9, 13, rfl, inX9, tyE9, nmX9, by decide, v_556, rfl⟩
theorem gp9_11 : ∀ C T N', vwCl[9]? = some (C, T, N') → (T 11).2.2.2 = false ∧ parseFieldDescriptor (T 11).2.2.1 = some .boolean := fun C T N h => by cases h; exact ⟨rfl, by decide +kernel⟩
theorem gX9_82 : Fd8 RX9 82 9 12 := ⟨RX9, TX9, 13, rfl, inX9, tyE9, nmX9, by decide, v_557, rfl⟩
theorem gp9_12 : ∀ C T N', vwCl[9]? = some (C, T, N') → (T 12).2.2.2 = false ∧ parseFieldDescriptor (T 12).2.2.1 = some .int := fun C T N h => by cases h; exact ⟨rfl, by decide +kernel⟩
