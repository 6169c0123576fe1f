/-! by program: words, fields and calls of constructors and of the law -/
def vt0 : List (Nat × Cond) := [(175, Cond.methodLink RX6 3 Lib.objectInit), (94, Cond.instanceMethod Lib.objectInit), (95, Cond.code Lib.objectInit ⟨#[0xb1]⟩ 1 none), (149, Cond.arrayClass .int), (176, Cond.fieldLink RX6 9 "FortressWatch$Sights" "row" "[I"), (193, Cond.methodLink RX0 3 Lib.objectInit), (194, Cond.fieldLink RX0 9 "FortressWatch$Chooser" "seenBySet" "[I"), (195, Cond.fieldLink RX0 15 "FortressWatch$Chooser" "seers" "[I"), (218, Cond.methodLink RX1 3 Lib.objectInit), (219, Cond.fieldLink RX1 9 "FortressWatch$Gaps" "first" "[I"), (220, Cond.fieldLink RX1 15 "FortressWatch$Gaps" "length" "[I"), (235, Cond.methodLink RX3 3 Lib.objectInit), (236, Cond.fieldLink RX3 9 "FortressWatch$Order" "key" "[I"), (245, Cond.methodLink RX7 3 Lib.objectInit), (246, Cond.fieldLink RX7 9 "FortressWatch$Text" "codes" "[I"), (278, Cond.methodLink RX2 3 Lib.objectInit), (279, Cond.fieldLink RX2 9 "FortressWatch$Line" "codes" "[I"), (292, Cond.methodLink RX5 3 Lib.objectInit), (845, Cond.methodLink RX10 3 Lib.objectInit), (846, Cond.fieldLink RX10 9 "FortressWatchModel" "s" "[I"), (847, Cond.fieldLink RX10 13 "FortressWatchModel" "was" "[I"), (848, Cond.fieldLink RX10 16 "FortressWatchModel" "saved" "[I"), (849, Cond.fieldLink RX10 19 "FortressWatchModel" "past" "[I"), (853, Cond.fieldLink RX10 22 "FortressWatchModel" "refusedAt" "I"), (855, Cond.fieldLink RX10 26 "FortressWatchModel" "line" "[I"), (857, Cond.fieldLink RX10 29 "FortressWatchModel" "tape" "[I"), (858, Cond.fieldLink RX10 32 "FortressWatchModel" "commands" "[I"), (101, Cond.methodLink RX8 3 Lib.objectInit), (106, Cond.fieldLink RX8 9 "FortressWatch$Wall" "stone" "[I"), (107, Cond.fieldLink RX8 15 "FortressWatch$Wall" "left" "[I")]
set_option maxRecDepth 20000 in
theorem Vt0 : vt0.all (fun q => decide (lw_tbl[q.1]? = some q.2) && goodWord q.2) = true := by decide +kernel
theorem v_175 : Cond.methodLink RX6 3 Lib.objectInit ∈ TB := qg Vt0 0 rfl
theorem v_94 : Cond.instanceMethod Lib.objectInit ∈ TB := qg Vt0 1 rfl
theorem v_95 : Cond.code Lib.objectInit ⟨#[0xb1]⟩ 1 none ∈ TB := qg Vt0 2 rfl
theorem v_149 : Cond.arrayClass .int ∈ TB := qg Vt0 3 rfl
theorem v_176 : Cond.fieldLink RX6 9 "FortressWatch$Sights" "row" "[I" ∈ TB := qg Vt0 4 rfl
theorem v_193 : Cond.methodLink RX0 3 Lib.objectInit ∈ TB := qg Vt0 5 rfl
theorem v_194 : Cond.fieldLink RX0 9 "FortressWatch$Chooser" "seenBySet" "[I" ∈ TB := qg Vt0 6 rfl
theorem v_195 : Cond.fieldLink RX0 15 "FortressWatch$Chooser" "seers" "[I" ∈ TB := qg Vt0 7 rfl
theorem v_218 : Cond.methodLink RX1 3 Lib.objectInit ∈ TB := qg Vt0 8 rfl
theorem v_219 : Cond.fieldLink RX1 9 "FortressWatch$Gaps" "first" "[I" ∈ TB := qg Vt0 9 rfl
theorem v_220 : Cond.fieldLink RX1 15 "FortressWatch$Gaps" "length" "[I" ∈ TB := qg Vt0 10 rfl
theorem v_235 : Cond.methodLink RX3 3 Lib.objectInit ∈ TB := qg Vt0 11 rfl
theorem v_236 : Cond.fieldLink RX3 9 "FortressWatch$Order" "key" "[I" ∈ TB := qg Vt0 12 rfl
theorem v_245 : Cond.methodLink RX7 3 Lib.objectInit ∈ TB := qg Vt0 13 rfl
theorem v_246 : Cond.fieldLink RX7 9 "FortressWatch$Text" "codes" "[I" ∈ TB := qg Vt0 14 rfl
theorem v_278 : Cond.methodLink RX2 3 Lib.objectInit ∈ TB := qg Vt0 15 rfl
theorem v_279 : Cond.fieldLink RX2 9 "FortressWatch$Line" "codes" "[I" ∈ TB := qg Vt0 16 rfl
theorem v_292 : Cond.methodLink RX5 3 Lib.objectInit ∈ TB := qg Vt0 17 rfl
theorem v_845 : Cond.methodLink RX10 3 Lib.objectInit ∈ TB := qg Vt0 18 rfl
theorem v_846 : Cond.fieldLink RX10 9 "FortressWatchModel" "s" "[I" ∈ TB := qg Vt0 19 rfl
theorem v_847 : Cond.fieldLink RX10 13 "FortressWatchModel" "was" "[I" ∈ TB := qg Vt0 20 rfl
theorem v_848 : Cond.fieldLink RX10 16 "FortressWatchModel" "saved" "[I" ∈ TB := qg Vt0 21 rfl
theorem v_849 : Cond.fieldLink RX10 19 "FortressWatchModel" "past" "[I" ∈ TB := qg Vt0 22 rfl
theorem v_853 : Cond.fieldLink RX10 22 "FortressWatchModel" "refusedAt" "I" ∈ TB := qg Vt0 23 rfl
theorem v_855 : Cond.fieldLink RX10 26 "FortressWatchModel" "line" "[I" ∈ TB := qg Vt0 24 rfl
theorem v_857 : Cond.fieldLink RX10 29 "FortressWatchModel" "tape" "[I" ∈ TB := qg Vt0 25 rfl
theorem v_858 : Cond.fieldLink RX10 32 "FortressWatchModel" "commands" "[I" ∈ TB := qg Vt0 26 rfl
theorem v_101 : Cond.methodLink RX8 3 Lib.objectInit ∈ TB := qg Vt0 27 rfl
theorem v_106 : Cond.fieldLink RX8 9 "FortressWatch$Wall" "stone" "[I" ∈ TB := qg Vt0 28 rfl
theorem v_107 : Cond.fieldLink RX8 15 "FortressWatch$Wall" "left" "[I" ∈ TB := qg Vt0 29 rfl
def vt1 : List (Nat × Cond) := [(109, Cond.fieldLink RX8 18 "FortressWatch$Wall" "right" "[I"), (111, Cond.fieldLink RX8 21 "FortressWatch$Wall" "blindFrom" "[I"), (113, Cond.fieldLink RX8 24 "FortressWatch$Wall" "blindMany" "[I"), (115, Cond.fieldLink RX8 27 "FortressWatch$Wall" "manned" "[I"), (105, Cond.code yX8_empty cX8_empty 2 none), (102, Cond.methodLink RX8 30 yX8_empty), (104, Cond.instanceMethod yX8_empty), (0, Cond.selects RX8 yX8_empty yX8_empty), (75, Cond.initialized RX8), (159, Cond.fieldLink RX4 11 "FortressWatch$Past" "walls" "[LFortressWatch$Wall;"), (156, Cond.classLink RX4 9 RX8), (97, Cond.instantiable RX8 11), (100, Cond.code yX8_init cX8_init 2 none), (158, Cond.methodLink RX4 17 yX8_init), (99, Cond.instanceMethod yX8_init), (155, Cond.methodLink RX4 3 Lib.objectInit), (93, Cond.methodLink RX9 1 Lib.objectInit), (96, Cond.classLink RX9 7 RX8), (98, Cond.methodLink RX9 9 yX8_init), (303, Cond.fieldLink RX9 10 "FortressWatch" "wall" "LFortressWatch$Wall;"), (304, Cond.fieldLink RX9 16 "FortressWatch" "before" "LFortressWatch$Wall;"), (305, Cond.fieldLink RX9 19 "FortressWatch" "snapshot" "LFortressWatch$Wall;"), (150, Cond.classLink RX9 22 RX4), (151, Cond.instantiable RX4 3), (76, Cond.initialized RX4), (154, Cond.code yX4_init cX4_init 2 none), (152, Cond.methodLink RX9 24 yX4_init), (153, Cond.instanceMethod yX4_init), (306, Cond.fieldLink RX9 25 "FortressWatch" "past" "LFortressWatch$Past;"), (170, Cond.classLink RX9 29 RX6)]
set_option maxRecDepth 20000 in
theorem Vt1 : vt1.all (fun q => decide (lw_tbl[q.1]? = some q.2) && goodWord q.2) = true := by decide +kernel
theorem v_109 : Cond.fieldLink RX8 18 "FortressWatch$Wall" "right" "[I" ∈ TB := qg Vt1 0 rfl
theorem v_111 : Cond.fieldLink RX8 21 "FortressWatch$Wall" "blindFrom" "[I" ∈ TB := qg Vt1 1 rfl
theorem v_113 : Cond.fieldLink RX8 24 "FortressWatch$Wall" "blindMany" "[I" ∈ TB := qg Vt1 2 rfl
theorem v_115 : Cond.fieldLink RX8 27 "FortressWatch$Wall" "manned" "[I" ∈ TB := qg Vt1 3 rfl
theorem v_105 : Cond.code yX8_empty cX8_empty 2 none ∈ TB := qg Vt1 4 rfl
theorem v_102 : Cond.methodLink RX8 30 yX8_empty ∈ TB := qg Vt1 5 rfl
theorem v_104 : Cond.instanceMethod yX8_empty ∈ TB := qg Vt1 6 rfl
theorem v_0 : Cond.selects RX8 yX8_empty yX8_empty ∈ TB := qg Vt1 7 rfl
theorem v_75 : Cond.initialized RX8 ∈ TB := qg Vt1 8 rfl
theorem v_159 : Cond.fieldLink RX4 11 "FortressWatch$Past" "walls" "[LFortressWatch$Wall;" ∈ TB := qg Vt1 9 rfl
theorem v_156 : Cond.classLink RX4 9 RX8 ∈ TB := qg Vt1 10 rfl
theorem v_97 : Cond.instantiable RX8 11 ∈ TB := qg Vt1 11 rfl
theorem v_100 : Cond.code yX8_init cX8_init 2 none ∈ TB := qg Vt1 12 rfl
theorem v_158 : Cond.methodLink RX4 17 yX8_init ∈ TB := qg Vt1 13 rfl
theorem v_99 : Cond.instanceMethod yX8_init ∈ TB := qg Vt1 14 rfl
theorem v_155 : Cond.methodLink RX4 3 Lib.objectInit ∈ TB := qg Vt1 15 rfl
theorem v_93 : Cond.methodLink RX9 1 Lib.objectInit ∈ TB := qg Vt1 16 rfl
theorem v_96 : Cond.classLink RX9 7 RX8 ∈ TB := qg Vt1 17 rfl
theorem v_98 : Cond.methodLink RX9 9 yX8_init ∈ TB := qg Vt1 18 rfl
theorem v_303 : Cond.fieldLink RX9 10 "FortressWatch" "wall" "LFortressWatch$Wall;" ∈ TB := qg Vt1 19 rfl
theorem v_304 : Cond.fieldLink RX9 16 "FortressWatch" "before" "LFortressWatch$Wall;" ∈ TB := qg Vt1 20 rfl
theorem v_305 : Cond.fieldLink RX9 19 "FortressWatch" "snapshot" "LFortressWatch$Wall;" ∈ TB := qg Vt1 21 rfl
theorem v_150 : Cond.classLink RX9 22 RX4 ∈ TB := qg Vt1 22 rfl
theorem v_151 : Cond.instantiable RX4 3 ∈ TB := qg Vt1 23 rfl
theorem v_76 : Cond.initialized RX4 ∈ TB := qg Vt1 24 rfl
theorem v_154 : Cond.code yX4_init cX4_init 2 none ∈ TB := qg Vt1 25 rfl
theorem v_152 : Cond.methodLink RX9 24 yX4_init ∈ TB := qg Vt1 26 rfl
theorem v_153 : Cond.instanceMethod yX4_init ∈ TB := qg Vt1 27 rfl
theorem v_306 : Cond.fieldLink RX9 25 "FortressWatch" "past" "LFortressWatch$Past;" ∈ TB := qg Vt1 28 rfl
theorem v_170 : Cond.classLink RX9 29 RX6 ∈ TB := qg Vt1 29 rfl
def vt2 : List (Nat × Cond) := [(171, Cond.instantiable RX6 3), (77, Cond.initialized RX6), (174, Cond.code yX6_init cX6_init 1 none), (173, Cond.instanceMethod yX6_init), (307, Cond.fieldLink RX9 32 "FortressWatch" "sights" "LFortressWatch$Sights;"), (188, Cond.classLink RX9 36 RX0), (189, Cond.instantiable RX0 5), (78, Cond.initialized RX0), (192, Cond.code yX0_init cX0_init 1 none), (191, Cond.instanceMethod yX0_init), (308, Cond.fieldLink RX9 39 "FortressWatch" "chooser" "LFortressWatch$Chooser;"), (213, Cond.classLink RX9 43 RX1), (214, Cond.instantiable RX1 3), (79, Cond.initialized RX1), (217, Cond.code yX1_init cX1_init 1 none), (216, Cond.instanceMethod yX1_init), (309, Cond.fieldLink RX9 46 "FortressWatch" "gaps" "LFortressWatch$Gaps;"), (230, Cond.classLink RX9 50 RX3), (231, Cond.instantiable RX3 1), (80, Cond.initialized RX3), (234, Cond.code yX3_init cX3_init 1 none), (233, Cond.instanceMethod yX3_init), (310, Cond.fieldLink RX9 53 "FortressWatch" "order" "LFortressWatch$Order;"), (240, Cond.classLink RX9 57 RX7), (241, Cond.instantiable RX7 7), (81, Cond.initialized RX7), (244, Cond.code yX7_init cX7_init 1 none), (243, Cond.instanceMethod yX7_init), (311, Cond.fieldLink RX9 60 "FortressWatch" "text" "LFortressWatch$Text;"), (273, Cond.classLink RX9 64 RX2)]
set_option maxRecDepth 20000 in
theorem Vt2 : vt2.all (fun q => decide (lw_tbl[q.1]? = some q.2) && goodWord q.2) = true := by decide +kernel
theorem v_171 : Cond.instantiable RX6 3 ∈ TB := qg Vt2 0 rfl
theorem v_77 : Cond.initialized RX6 ∈ TB := qg Vt2 1 rfl
theorem v_174 : Cond.code yX6_init cX6_init 1 none ∈ TB := qg Vt2 2 rfl
theorem v_173 : Cond.instanceMethod yX6_init ∈ TB := qg Vt2 3 rfl
theorem v_307 : Cond.fieldLink RX9 32 "FortressWatch" "sights" "LFortressWatch$Sights;" ∈ TB := qg Vt2 4 rfl
theorem v_188 : Cond.classLink RX9 36 RX0 ∈ TB := qg Vt2 5 rfl
theorem v_189 : Cond.instantiable RX0 5 ∈ TB := qg Vt2 6 rfl
theorem v_78 : Cond.initialized RX0 ∈ TB := qg Vt2 7 rfl
theorem v_192 : Cond.code yX0_init cX0_init 1 none ∈ TB := qg Vt2 8 rfl
theorem v_191 : Cond.instanceMethod yX0_init ∈ TB := qg Vt2 9 rfl
theorem v_308 : Cond.fieldLink RX9 39 "FortressWatch" "chooser" "LFortressWatch$Chooser;" ∈ TB := qg Vt2 10 rfl
theorem v_213 : Cond.classLink RX9 43 RX1 ∈ TB := qg Vt2 11 rfl
theorem v_214 : Cond.instantiable RX1 3 ∈ TB := qg Vt2 12 rfl
theorem v_79 : Cond.initialized RX1 ∈ TB := qg Vt2 13 rfl
theorem v_217 : Cond.code yX1_init cX1_init 1 none ∈ TB := qg Vt2 14 rfl
theorem v_216 : Cond.instanceMethod yX1_init ∈ TB := qg Vt2 15 rfl
theorem v_309 : Cond.fieldLink RX9 46 "FortressWatch" "gaps" "LFortressWatch$Gaps;" ∈ TB := qg Vt2 16 rfl
theorem v_230 : Cond.classLink RX9 50 RX3 ∈ TB := qg Vt2 17 rfl
theorem v_231 : Cond.instantiable RX3 1 ∈ TB := qg Vt2 18 rfl
theorem v_80 : Cond.initialized RX3 ∈ TB := qg Vt2 19 rfl
theorem v_234 : Cond.code yX3_init cX3_init 1 none ∈ TB := qg Vt2 20 rfl
theorem v_233 : Cond.instanceMethod yX3_init ∈ TB := qg Vt2 21 rfl
theorem v_310 : Cond.fieldLink RX9 53 "FortressWatch" "order" "LFortressWatch$Order;" ∈ TB := qg Vt2 22 rfl
theorem v_240 : Cond.classLink RX9 57 RX7 ∈ TB := qg Vt2 23 rfl
theorem v_241 : Cond.instantiable RX7 7 ∈ TB := qg Vt2 24 rfl
theorem v_81 : Cond.initialized RX7 ∈ TB := qg Vt2 25 rfl
theorem v_244 : Cond.code yX7_init cX7_init 1 none ∈ TB := qg Vt2 26 rfl
theorem v_243 : Cond.instanceMethod yX7_init ∈ TB := qg Vt2 27 rfl
theorem v_311 : Cond.fieldLink RX9 60 "FortressWatch" "text" "LFortressWatch$Text;" ∈ TB := qg Vt2 28 rfl
theorem v_273 : Cond.classLink RX9 64 RX2 ∈ TB := qg Vt2 29 rfl
def vt3 : List (Nat × Cond) := [(274, Cond.instantiable RX2 2), (82, Cond.initialized RX2), (277, Cond.code yX2_init cX2_init 1 none), (276, Cond.instanceMethod yX2_init), (312, Cond.fieldLink RX9 67 "FortressWatch" "line" "LFortressWatch$Line;"), (287, Cond.classLink RX9 71 RX5), (288, Cond.instantiable RX5 3), (83, Cond.initialized RX5), (291, Cond.code yX5_init cX5_init 1 none), (290, Cond.instanceMethod yX5_init), (313, Cond.fieldLink RX9 74 "FortressWatch" "refused" "LFortressWatch$Refused;"), (314, Cond.fieldLink RX9 78 "FortressWatch" "hasSnapshot" "Z"), (315, Cond.fieldLink RX9 82 "FortressWatch" "commandNow" "I"), (346, Cond.code yX9_post cX9_post 4 (some .int)), (343, Cond.methodLink RL 13 yX9_post), (344, Cond.instanceMethod yX9_post), (345, Cond.selects RX9 yX9_post yX9_post), (74, Cond.initialized RX9), (898, Cond.code yX10_post cX10_post 4 (some .int)), (895, Cond.methodLink RL 17 yX10_post), (896, Cond.instanceMethod yX10_post), (897, Cond.selects RX10 yX10_post yX10_post), (84, Cond.initialized RX10), (397, Cond.code yX9_tear cX9_tear 2 (some .int)), (394, Cond.methodLink RL 18 yX9_tear), (395, Cond.instanceMethod yX9_tear), (396, Cond.selects RX9 yX9_tear yX9_tear), (946, Cond.code yX10_tear cX10_tear 2 (some .int)), (943, Cond.methodLink RL 22 yX10_tear), (944, Cond.instanceMethod yX10_tear)]
set_option maxRecDepth 20000 in
theorem Vt3 : vt3.all (fun q => decide (lw_tbl[q.1]? = some q.2) && goodWord q.2) = true := by decide +kernel
theorem v_274 : Cond.instantiable RX2 2 ∈ TB := qg Vt3 0 rfl
theorem v_82 : Cond.initialized RX2 ∈ TB := qg Vt3 1 rfl
theorem v_277 : Cond.code yX2_init cX2_init 1 none ∈ TB := qg Vt3 2 rfl
theorem v_276 : Cond.instanceMethod yX2_init ∈ TB := qg Vt3 3 rfl
theorem v_312 : Cond.fieldLink RX9 67 "FortressWatch" "line" "LFortressWatch$Line;" ∈ TB := qg Vt3 4 rfl
theorem v_287 : Cond.classLink RX9 71 RX5 ∈ TB := qg Vt3 5 rfl
theorem v_288 : Cond.instantiable RX5 3 ∈ TB := qg Vt3 6 rfl
theorem v_83 : Cond.initialized RX5 ∈ TB := qg Vt3 7 rfl
theorem v_291 : Cond.code yX5_init cX5_init 1 none ∈ TB := qg Vt3 8 rfl
theorem v_290 : Cond.instanceMethod yX5_init ∈ TB := qg Vt3 9 rfl
theorem v_313 : Cond.fieldLink RX9 74 "FortressWatch" "refused" "LFortressWatch$Refused;" ∈ TB := qg Vt3 10 rfl
theorem v_314 : Cond.fieldLink RX9 78 "FortressWatch" "hasSnapshot" "Z" ∈ TB := qg Vt3 11 rfl
theorem v_315 : Cond.fieldLink RX9 82 "FortressWatch" "commandNow" "I" ∈ TB := qg Vt3 12 rfl
theorem v_346 : Cond.code yX9_post cX9_post 4 (some .int) ∈ TB := qg Vt3 13 rfl
theorem v_343 : Cond.methodLink RL 13 yX9_post ∈ TB := qg Vt3 14 rfl
theorem v_344 : Cond.instanceMethod yX9_post ∈ TB := qg Vt3 15 rfl
theorem v_345 : Cond.selects RX9 yX9_post yX9_post ∈ TB := qg Vt3 16 rfl
theorem v_74 : Cond.initialized RX9 ∈ TB := qg Vt3 17 rfl
theorem v_898 : Cond.code yX10_post cX10_post 4 (some .int) ∈ TB := qg Vt3 18 rfl
theorem v_895 : Cond.methodLink RL 17 yX10_post ∈ TB := qg Vt3 19 rfl
theorem v_896 : Cond.instanceMethod yX10_post ∈ TB := qg Vt3 20 rfl
theorem v_897 : Cond.selects RX10 yX10_post yX10_post ∈ TB := qg Vt3 21 rfl
theorem v_84 : Cond.initialized RX10 ∈ TB := qg Vt3 22 rfl
theorem v_397 : Cond.code yX9_tear cX9_tear 2 (some .int) ∈ TB := qg Vt3 23 rfl
theorem v_394 : Cond.methodLink RL 18 yX9_tear ∈ TB := qg Vt3 24 rfl
theorem v_395 : Cond.instanceMethod yX9_tear ∈ TB := qg Vt3 25 rfl
theorem v_396 : Cond.selects RX9 yX9_tear yX9_tear ∈ TB := qg Vt3 26 rfl
theorem v_946 : Cond.code yX10_tear cX10_tear 2 (some .int) ∈ TB := qg Vt3 27 rfl
theorem v_943 : Cond.methodLink RL 22 yX10_tear ∈ TB := qg Vt3 28 rfl
theorem v_944 : Cond.instanceMethod yX10_tear ∈ TB := qg Vt3 29 rfl
def vt4 : List (Nat × Cond) := [(945, Cond.selects RX10 yX10_tear yX10_tear), (413, Cond.code yX9_reach cX9_reach 4 (some .int)), (410, Cond.methodLink RL 23 yX9_reach), (411, Cond.instanceMethod yX9_reach), (412, Cond.selects RX9 yX9_reach yX9_reach), (958, Cond.code yX10_reach cX10_reach 4 (some .int)), (955, Cond.methodLink RL 26 yX10_reach), (956, Cond.instanceMethod yX10_reach), (957, Cond.selects RX10 yX10_reach yX10_reach), (421, Cond.code yX9_blind cX9_blind 5 (some .int)), (418, Cond.methodLink RL 27 yX9_blind), (419, Cond.instanceMethod yX9_blind), (420, Cond.selects RX9 yX9_blind yX9_blind), (966, Cond.code yX10_blind cX10_blind 4 (some .int)), (963, Cond.methodLink RL 30 yX10_blind), (964, Cond.instanceMethod yX10_blind), (965, Cond.selects RX10 yX10_blind yX10_blind), (466, Cond.code yX9_see cX9_see 3 (some .int)), (463, Cond.methodLink RL 31 yX9_see), (464, Cond.instanceMethod yX9_see), (465, Cond.selects RX9 yX9_see yX9_see), (991, Cond.code yX10_see cX10_see 2 (some .int)), (988, Cond.methodLink RL 34 yX10_see), (989, Cond.instanceMethod yX10_see), (990, Cond.selects RX10 yX10_see yX10_see), (474, Cond.code yX9_man cX9_man 4 (some .int)), (471, Cond.methodLink RL 35 yX9_man), (472, Cond.instanceMethod yX9_man), (473, Cond.selects RX9 yX9_man yX9_man), (999, Cond.code yX10_man cX10_man 3 (some .int))]
set_option maxRecDepth 20000 in
theorem Vt4 : vt4.all (fun q => decide (lw_tbl[q.1]? = some q.2) && goodWord q.2) = true := by decide +kernel
theorem v_945 : Cond.selects RX10 yX10_tear yX10_tear ∈ TB := qg Vt4 0 rfl
theorem v_413 : Cond.code yX9_reach cX9_reach 4 (some .int) ∈ TB := qg Vt4 1 rfl
theorem v_410 : Cond.methodLink RL 23 yX9_reach ∈ TB := qg Vt4 2 rfl
theorem v_411 : Cond.instanceMethod yX9_reach ∈ TB := qg Vt4 3 rfl
theorem v_412 : Cond.selects RX9 yX9_reach yX9_reach ∈ TB := qg Vt4 4 rfl
theorem v_958 : Cond.code yX10_reach cX10_reach 4 (some .int) ∈ TB := qg Vt4 5 rfl
theorem v_955 : Cond.methodLink RL 26 yX10_reach ∈ TB := qg Vt4 6 rfl
theorem v_956 : Cond.instanceMethod yX10_reach ∈ TB := qg Vt4 7 rfl
theorem v_957 : Cond.selects RX10 yX10_reach yX10_reach ∈ TB := qg Vt4 8 rfl
theorem v_421 : Cond.code yX9_blind cX9_blind 5 (some .int) ∈ TB := qg Vt4 9 rfl
theorem v_418 : Cond.methodLink RL 27 yX9_blind ∈ TB := qg Vt4 10 rfl
theorem v_419 : Cond.instanceMethod yX9_blind ∈ TB := qg Vt4 11 rfl
theorem v_420 : Cond.selects RX9 yX9_blind yX9_blind ∈ TB := qg Vt4 12 rfl
theorem v_966 : Cond.code yX10_blind cX10_blind 4 (some .int) ∈ TB := qg Vt4 13 rfl
theorem v_963 : Cond.methodLink RL 30 yX10_blind ∈ TB := qg Vt4 14 rfl
theorem v_964 : Cond.instanceMethod yX10_blind ∈ TB := qg Vt4 15 rfl
theorem v_965 : Cond.selects RX10 yX10_blind yX10_blind ∈ TB := qg Vt4 16 rfl
theorem v_466 : Cond.code yX9_see cX9_see 3 (some .int) ∈ TB := qg Vt4 17 rfl
theorem v_463 : Cond.methodLink RL 31 yX9_see ∈ TB := qg Vt4 18 rfl
theorem v_464 : Cond.instanceMethod yX9_see ∈ TB := qg Vt4 19 rfl
theorem v_465 : Cond.selects RX9 yX9_see yX9_see ∈ TB := qg Vt4 20 rfl
theorem v_991 : Cond.code yX10_see cX10_see 2 (some .int) ∈ TB := qg Vt4 21 rfl
theorem v_988 : Cond.methodLink RL 34 yX10_see ∈ TB := qg Vt4 22 rfl
theorem v_989 : Cond.instanceMethod yX10_see ∈ TB := qg Vt4 23 rfl
theorem v_990 : Cond.selects RX10 yX10_see yX10_see ∈ TB := qg Vt4 24 rfl
theorem v_474 : Cond.code yX9_man cX9_man 4 (some .int) ∈ TB := qg Vt4 25 rfl
theorem v_471 : Cond.methodLink RL 35 yX9_man ∈ TB := qg Vt4 26 rfl
theorem v_472 : Cond.instanceMethod yX9_man ∈ TB := qg Vt4 27 rfl
theorem v_473 : Cond.selects RX9 yX9_man yX9_man ∈ TB := qg Vt4 28 rfl
theorem v_999 : Cond.code yX10_man cX10_man 3 (some .int) ∈ TB := qg Vt4 29 rfl
def vt5 : List (Nat × Cond) := [(996, Cond.methodLink RL 39 yX10_man), (997, Cond.instanceMethod yX10_man), (998, Cond.selects RX10 yX10_man yX10_man), (494, Cond.code yX9_hour cX9_hour 2 (some .int)), (491, Cond.methodLink RL 40 yX9_hour), (492, Cond.instanceMethod yX9_hour), (493, Cond.selects RX9 yX9_hour yX9_hour), (1026, Cond.code yX10_hour cX10_hour 2 (some .int)), (1023, Cond.methodLink RL 43 yX10_hour), (1024, Cond.instanceMethod yX10_hour), (1025, Cond.selects RX10 yX10_hour yX10_hour), (505, Cond.code yX9_watch cX9_watch 1 (some .int)), (502, Cond.methodLink RL 44 yX9_watch), (503, Cond.instanceMethod yX9_watch), (504, Cond.selects RX9 yX9_watch yX9_watch), (1037, Cond.code yX10_watch cX10_watch 1 (some .int)), (1034, Cond.methodLink RL 48 yX10_watch), (1035, Cond.instanceMethod yX10_watch), (1036, Cond.selects RX10 yX10_watch yX10_watch), (532, Cond.code yX9_postOf cX9_postOf 3 (some .int)), (529, Cond.methodLink RL 49 yX9_postOf), (530, Cond.instanceMethod yX9_postOf), (531, Cond.selects RX9 yX9_postOf yX9_postOf), (1098, Cond.code yX10_postOf cX10_postOf 3 (some .int)), (1095, Cond.methodLink RL 52 yX10_postOf), (1096, Cond.instanceMethod yX10_postOf), (1097, Cond.selects RX10 yX10_postOf yX10_postOf), (545, Cond.code yX9_sees cX9_sees 3 (some .int)), (542, Cond.methodLink RL 53 yX9_sees), (543, Cond.instanceMethod yX9_sees)]
set_option maxRecDepth 20000 in
theorem Vt5 : vt5.all (fun q => decide (lw_tbl[q.1]? = some q.2) && goodWord q.2) = true := by decide +kernel
theorem v_996 : Cond.methodLink RL 39 yX10_man ∈ TB := qg Vt5 0 rfl
theorem v_997 : Cond.instanceMethod yX10_man ∈ TB := qg Vt5 1 rfl
theorem v_998 : Cond.selects RX10 yX10_man yX10_man ∈ TB := qg Vt5 2 rfl
theorem v_494 : Cond.code yX9_hour cX9_hour 2 (some .int) ∈ TB := qg Vt5 3 rfl
theorem v_491 : Cond.methodLink RL 40 yX9_hour ∈ TB := qg Vt5 4 rfl
theorem v_492 : Cond.instanceMethod yX9_hour ∈ TB := qg Vt5 5 rfl
theorem v_493 : Cond.selects RX9 yX9_hour yX9_hour ∈ TB := qg Vt5 6 rfl
theorem v_1026 : Cond.code yX10_hour cX10_hour 2 (some .int) ∈ TB := qg Vt5 7 rfl
theorem v_1023 : Cond.methodLink RL 43 yX10_hour ∈ TB := qg Vt5 8 rfl
theorem v_1024 : Cond.instanceMethod yX10_hour ∈ TB := qg Vt5 9 rfl
theorem v_1025 : Cond.selects RX10 yX10_hour yX10_hour ∈ TB := qg Vt5 10 rfl
theorem v_505 : Cond.code yX9_watch cX9_watch 1 (some .int) ∈ TB := qg Vt5 11 rfl
theorem v_502 : Cond.methodLink RL 44 yX9_watch ∈ TB := qg Vt5 12 rfl
theorem v_503 : Cond.instanceMethod yX9_watch ∈ TB := qg Vt5 13 rfl
theorem v_504 : Cond.selects RX9 yX9_watch yX9_watch ∈ TB := qg Vt5 14 rfl
theorem v_1037 : Cond.code yX10_watch cX10_watch 1 (some .int) ∈ TB := qg Vt5 15 rfl
theorem v_1034 : Cond.methodLink RL 48 yX10_watch ∈ TB := qg Vt5 16 rfl
theorem v_1035 : Cond.instanceMethod yX10_watch ∈ TB := qg Vt5 17 rfl
theorem v_1036 : Cond.selects RX10 yX10_watch yX10_watch ∈ TB := qg Vt5 18 rfl
theorem v_532 : Cond.code yX9_postOf cX9_postOf 3 (some .int) ∈ TB := qg Vt5 19 rfl
theorem v_529 : Cond.methodLink RL 49 yX9_postOf ∈ TB := qg Vt5 20 rfl
theorem v_530 : Cond.instanceMethod yX9_postOf ∈ TB := qg Vt5 21 rfl
theorem v_531 : Cond.selects RX9 yX9_postOf yX9_postOf ∈ TB := qg Vt5 22 rfl
theorem v_1098 : Cond.code yX10_postOf cX10_postOf 3 (some .int) ∈ TB := qg Vt5 23 rfl
theorem v_1095 : Cond.methodLink RL 52 yX10_postOf ∈ TB := qg Vt5 24 rfl
theorem v_1096 : Cond.instanceMethod yX10_postOf ∈ TB := qg Vt5 25 rfl
theorem v_1097 : Cond.selects RX10 yX10_postOf yX10_postOf ∈ TB := qg Vt5 26 rfl
theorem v_545 : Cond.code yX9_sees cX9_sees 3 (some .int) ∈ TB := qg Vt5 27 rfl
theorem v_542 : Cond.methodLink RL 53 yX9_sees ∈ TB := qg Vt5 28 rfl
theorem v_543 : Cond.instanceMethod yX9_sees ∈ TB := qg Vt5 29 rfl
def vt6 : List (Nat × Cond) := [(544, Cond.selects RX9 yX9_sees yX9_sees), (1110, Cond.code yX10_sees cX10_sees 3 (some .int)), (1107, Cond.methodLink RL 56 yX10_sees), (1108, Cond.instanceMethod yX10_sees), (1109, Cond.selects RX10 yX10_sees yX10_sees), (550, Cond.code yX9_watched cX9_watched 2 (some .int)), (547, Cond.methodLink RL 57 yX9_watched), (548, Cond.instanceMethod yX9_watched), (549, Cond.selects RX9 yX9_watched yX9_watched), (1114, Cond.code yX10_watched cX10_watched 2 (some .int)), (1111, Cond.methodLink RL 60 yX10_watched), (1112, Cond.instanceMethod yX10_watched), (1113, Cond.selects RX10 yX10_watched yX10_watched), (558, Cond.code yX9_seenBy cX9_seenBy 2 (some .int)), (555, Cond.methodLink RL 61 yX9_seenBy), (556, Cond.instanceMethod yX9_seenBy), (557, Cond.selects RX9 yX9_seenBy yX9_seenBy), (1122, Cond.code yX10_seenBy cX10_seenBy 4 (some .int)), (1119, Cond.methodLink RL 64 yX10_seenBy), (1120, Cond.instanceMethod yX10_seenBy), (1121, Cond.selects RX10 yX10_seenBy yX10_seenBy), (562, Cond.code yX9_gapOf cX9_gapOf 3 (some .int)), (559, Cond.methodLink RL 65 yX9_gapOf), (560, Cond.instanceMethod yX9_gapOf), (561, Cond.selects RX9 yX9_gapOf yX9_gapOf), (1126, Cond.code yX10_gapOf cX10_gapOf 4 (some .int)), (1123, Cond.methodLink RL 68 yX10_gapOf), (1124, Cond.instanceMethod yX10_gapOf), (1125, Cond.selects RX10 yX10_gapOf yX10_gapOf), (600, Cond.code yX9_fewest cX9_fewest 1 (some .int))]
set_option maxRecDepth 20000 in
theorem Vt6 : vt6.all (fun q => decide (lw_tbl[q.1]? = some q.2) && goodWord q.2) = true := by decide +kernel
theorem v_544 : Cond.selects RX9 yX9_sees yX9_sees ∈ TB := qg Vt6 0 rfl
theorem v_1110 : Cond.code yX10_sees cX10_sees 3 (some .int) ∈ TB := qg Vt6 1 rfl
theorem v_1107 : Cond.methodLink RL 56 yX10_sees ∈ TB := qg Vt6 2 rfl
theorem v_1108 : Cond.instanceMethod yX10_sees ∈ TB := qg Vt6 3 rfl
theorem v_1109 : Cond.selects RX10 yX10_sees yX10_sees ∈ TB := qg Vt6 4 rfl
theorem v_550 : Cond.code yX9_watched cX9_watched 2 (some .int) ∈ TB := qg Vt6 5 rfl
theorem v_547 : Cond.methodLink RL 57 yX9_watched ∈ TB := qg Vt6 6 rfl
theorem v_548 : Cond.instanceMethod yX9_watched ∈ TB := qg Vt6 7 rfl
theorem v_549 : Cond.selects RX9 yX9_watched yX9_watched ∈ TB := qg Vt6 8 rfl
theorem v_1114 : Cond.code yX10_watched cX10_watched 2 (some .int) ∈ TB := qg Vt6 9 rfl
theorem v_1111 : Cond.methodLink RL 60 yX10_watched ∈ TB := qg Vt6 10 rfl
theorem v_1112 : Cond.instanceMethod yX10_watched ∈ TB := qg Vt6 11 rfl
theorem v_1113 : Cond.selects RX10 yX10_watched yX10_watched ∈ TB := qg Vt6 12 rfl
theorem v_558 : Cond.code yX9_seenBy cX9_seenBy 2 (some .int) ∈ TB := qg Vt6 13 rfl
theorem v_555 : Cond.methodLink RL 61 yX9_seenBy ∈ TB := qg Vt6 14 rfl
theorem v_556 : Cond.instanceMethod yX9_seenBy ∈ TB := qg Vt6 15 rfl
theorem v_557 : Cond.selects RX9 yX9_seenBy yX9_seenBy ∈ TB := qg Vt6 16 rfl
theorem v_1122 : Cond.code yX10_seenBy cX10_seenBy 4 (some .int) ∈ TB := qg Vt6 17 rfl
theorem v_1119 : Cond.methodLink RL 64 yX10_seenBy ∈ TB := qg Vt6 18 rfl
theorem v_1120 : Cond.instanceMethod yX10_seenBy ∈ TB := qg Vt6 19 rfl
theorem v_1121 : Cond.selects RX10 yX10_seenBy yX10_seenBy ∈ TB := qg Vt6 20 rfl
theorem v_562 : Cond.code yX9_gapOf cX9_gapOf 3 (some .int) ∈ TB := qg Vt6 21 rfl
theorem v_559 : Cond.methodLink RL 65 yX9_gapOf ∈ TB := qg Vt6 22 rfl
theorem v_560 : Cond.instanceMethod yX9_gapOf ∈ TB := qg Vt6 23 rfl
theorem v_561 : Cond.selects RX9 yX9_gapOf yX9_gapOf ∈ TB := qg Vt6 24 rfl
theorem v_1126 : Cond.code yX10_gapOf cX10_gapOf 4 (some .int) ∈ TB := qg Vt6 25 rfl
theorem v_1123 : Cond.methodLink RL 68 yX10_gapOf ∈ TB := qg Vt6 26 rfl
theorem v_1124 : Cond.instanceMethod yX10_gapOf ∈ TB := qg Vt6 27 rfl
theorem v_1125 : Cond.selects RX10 yX10_gapOf yX10_gapOf ∈ TB := qg Vt6 28 rfl
theorem v_600 : Cond.code yX9_fewest cX9_fewest 1 (some .int) ∈ TB := qg Vt6 29 rfl
def vt7 : List (Nat × Cond) := [(597, Cond.methodLink RL 69 yX9_fewest), (598, Cond.instanceMethod yX9_fewest), (599, Cond.selects RX9 yX9_fewest yX9_fewest), (1054, Cond.code yX10_fewest cX10_fewest 1 (some .int)), (1051, Cond.methodLink RL 72 yX10_fewest), (1052, Cond.instanceMethod yX10_fewest), (1053, Cond.selects RX10 yX10_fewest yX10_fewest), (604, Cond.code yX9_fewestAgain cX9_fewestAgain 1 (some .int)), (601, Cond.methodLink RL 73 yX9_fewestAgain), (602, Cond.instanceMethod yX9_fewestAgain), (603, Cond.selects RX9 yX9_fewestAgain yX9_fewestAgain), (1058, Cond.code yX10_fewestAgain cX10_fewestAgain 1 (some .int)), (1055, Cond.methodLink RL 76 yX10_fewestAgain), (1056, Cond.instanceMethod yX10_fewestAgain), (1057, Cond.selects RX10 yX10_fewestAgain yX10_fewestAgain), (623, Cond.code yX9_watches cX9_watches 1 (some .int)), (620, Cond.methodLink RL 77 yX9_watches), (621, Cond.instanceMethod yX9_watches), (622, Cond.selects RX9 yX9_watches yX9_watches), (1062, Cond.code yX10_watches cX10_watches 4 (some .int)), (1059, Cond.methodLink RL 80 yX10_watches), (1060, Cond.instanceMethod yX10_watches), (1061, Cond.selects RX10 yX10_watches yX10_watches), (627, Cond.code yX9_isFull cX9_isFull 2 (some .int)), (624, Cond.methodLink RL 81 yX9_isFull), (625, Cond.instanceMethod yX9_isFull), (626, Cond.selects RX9 yX9_isFull yX9_isFull), (1070, Cond.code yX10_isFull cX10_isFull 2 (some .int)), (1067, Cond.methodLink RL 84 yX10_isFull), (1068, Cond.instanceMethod yX10_isFull)]
set_option maxRecDepth 20000 in
theorem Vt7 : vt7.all (fun q => decide (lw_tbl[q.1]? = some q.2) && goodWord q.2) = true := by decide +kernel
theorem v_597 : Cond.methodLink RL 69 yX9_fewest ∈ TB := qg Vt7 0 rfl
theorem v_598 : Cond.instanceMethod yX9_fewest ∈ TB := qg Vt7 1 rfl
theorem v_599 : Cond.selects RX9 yX9_fewest yX9_fewest ∈ TB := qg Vt7 2 rfl
theorem v_1054 : Cond.code yX10_fewest cX10_fewest 1 (some .int) ∈ TB := qg Vt7 3 rfl
theorem v_1051 : Cond.methodLink RL 72 yX10_fewest ∈ TB := qg Vt7 4 rfl
theorem v_1052 : Cond.instanceMethod yX10_fewest ∈ TB := qg Vt7 5 rfl
theorem v_1053 : Cond.selects RX10 yX10_fewest yX10_fewest ∈ TB := qg Vt7 6 rfl
theorem v_604 : Cond.code yX9_fewestAgain cX9_fewestAgain 1 (some .int) ∈ TB := qg Vt7 7 rfl
theorem v_601 : Cond.methodLink RL 73 yX9_fewestAgain ∈ TB := qg Vt7 8 rfl
theorem v_602 : Cond.instanceMethod yX9_fewestAgain ∈ TB := qg Vt7 9 rfl
theorem v_603 : Cond.selects RX9 yX9_fewestAgain yX9_fewestAgain ∈ TB := qg Vt7 10 rfl
theorem v_1058 : Cond.code yX10_fewestAgain cX10_fewestAgain 1 (some .int) ∈ TB := qg Vt7 11 rfl
theorem v_1055 : Cond.methodLink RL 76 yX10_fewestAgain ∈ TB := qg Vt7 12 rfl
theorem v_1056 : Cond.instanceMethod yX10_fewestAgain ∈ TB := qg Vt7 13 rfl
theorem v_1057 : Cond.selects RX10 yX10_fewestAgain yX10_fewestAgain ∈ TB := qg Vt7 14 rfl
theorem v_623 : Cond.code yX9_watches cX9_watches 1 (some .int) ∈ TB := qg Vt7 15 rfl
theorem v_620 : Cond.methodLink RL 77 yX9_watches ∈ TB := qg Vt7 16 rfl
theorem v_621 : Cond.instanceMethod yX9_watches ∈ TB := qg Vt7 17 rfl
theorem v_622 : Cond.selects RX9 yX9_watches yX9_watches ∈ TB := qg Vt7 18 rfl
theorem v_1062 : Cond.code yX10_watches cX10_watches 4 (some .int) ∈ TB := qg Vt7 19 rfl
theorem v_1059 : Cond.methodLink RL 80 yX10_watches ∈ TB := qg Vt7 20 rfl
theorem v_1060 : Cond.instanceMethod yX10_watches ∈ TB := qg Vt7 21 rfl
theorem v_1061 : Cond.selects RX10 yX10_watches yX10_watches ∈ TB := qg Vt7 22 rfl
theorem v_627 : Cond.code yX9_isFull cX9_isFull 2 (some .int) ∈ TB := qg Vt7 23 rfl
theorem v_624 : Cond.methodLink RL 81 yX9_isFull ∈ TB := qg Vt7 24 rfl
theorem v_625 : Cond.instanceMethod yX9_isFull ∈ TB := qg Vt7 25 rfl
theorem v_626 : Cond.selects RX9 yX9_isFull yX9_isFull ∈ TB := qg Vt7 26 rfl
theorem v_1070 : Cond.code yX10_isFull cX10_isFull 2 (some .int) ∈ TB := qg Vt7 27 rfl
theorem v_1067 : Cond.methodLink RL 84 yX10_isFull ∈ TB := qg Vt7 28 rfl
theorem v_1068 : Cond.instanceMethod yX10_isFull ∈ TB := qg Vt7 29 rfl
def vt8 : List (Nat × Cond) := [(1069, Cond.selects RX10 yX10_isFull yX10_isFull), (631, Cond.code yX9_spare cX9_spare 5 (some .int)), (628, Cond.methodLink RL 85 yX9_spare), (629, Cond.instanceMethod yX9_spare), (630, Cond.selects RX9 yX9_spare yX9_spare), (1074, Cond.code yX10_spare cX10_spare 5 (some .int)), (1071, Cond.methodLink RL 88 yX10_spare), (1072, Cond.instanceMethod yX10_spare), (1073, Cond.selects RX10 yX10_spare yX10_spare), (635, Cond.code yX9_next cX9_next 1 (some .int)), (632, Cond.methodLink RL 89 yX9_next), (633, Cond.instanceMethod yX9_next), (634, Cond.selects RX9 yX9_next yX9_next), (1078, Cond.code yX10_next cX10_next 1 (some .int)), (1075, Cond.methodLink RL 92 yX10_next), (1076, Cond.instanceMethod yX10_next), (1077, Cond.selects RX10 yX10_next yX10_next), (643, Cond.code yX9_greedy cX9_greedy 4 (some .int)), (640, Cond.methodLink RL 93 yX9_greedy), (641, Cond.instanceMethod yX9_greedy), (642, Cond.selects RX9 yX9_greedy yX9_greedy), (1086, Cond.code yX10_greedy cX10_greedy 3 (some .int)), (1083, Cond.methodLink RL 96 yX10_greedy), (1084, Cond.instanceMethod yX10_greedy), (1085, Cond.selects RX10 yX10_greedy yX10_greedy), (647, Cond.code yX9_wouldNeed cX9_wouldNeed 2 (some .int)), (644, Cond.methodLink RL 97 yX9_wouldNeed), (645, Cond.instanceMethod yX9_wouldNeed), (646, Cond.selects RX9 yX9_wouldNeed yX9_wouldNeed), (1090, Cond.code yX10_wouldNeed cX10_wouldNeed 3 (some .int))]
set_option maxRecDepth 20000 in
theorem Vt8 : vt8.all (fun q => decide (lw_tbl[q.1]? = some q.2) && goodWord q.2) = true := by decide +kernel
theorem v_1069 : Cond.selects RX10 yX10_isFull yX10_isFull ∈ TB := qg Vt8 0 rfl
theorem v_631 : Cond.code yX9_spare cX9_spare 5 (some .int) ∈ TB := qg Vt8 1 rfl
theorem v_628 : Cond.methodLink RL 85 yX9_spare ∈ TB := qg Vt8 2 rfl
theorem v_629 : Cond.instanceMethod yX9_spare ∈ TB := qg Vt8 3 rfl
theorem v_630 : Cond.selects RX9 yX9_spare yX9_spare ∈ TB := qg Vt8 4 rfl
theorem v_1074 : Cond.code yX10_spare cX10_spare 5 (some .int) ∈ TB := qg Vt8 5 rfl
theorem v_1071 : Cond.methodLink RL 88 yX10_spare ∈ TB := qg Vt8 6 rfl
theorem v_1072 : Cond.instanceMethod yX10_spare ∈ TB := qg Vt8 7 rfl
theorem v_1073 : Cond.selects RX10 yX10_spare yX10_spare ∈ TB := qg Vt8 8 rfl
theorem v_635 : Cond.code yX9_next cX9_next 1 (some .int) ∈ TB := qg Vt8 9 rfl
theorem v_632 : Cond.methodLink RL 89 yX9_next ∈ TB := qg Vt8 10 rfl
theorem v_633 : Cond.instanceMethod yX9_next ∈ TB := qg Vt8 11 rfl
theorem v_634 : Cond.selects RX9 yX9_next yX9_next ∈ TB := qg Vt8 12 rfl
theorem v_1078 : Cond.code yX10_next cX10_next 1 (some .int) ∈ TB := qg Vt8 13 rfl
theorem v_1075 : Cond.methodLink RL 92 yX10_next ∈ TB := qg Vt8 14 rfl
theorem v_1076 : Cond.instanceMethod yX10_next ∈ TB := qg Vt8 15 rfl
theorem v_1077 : Cond.selects RX10 yX10_next yX10_next ∈ TB := qg Vt8 16 rfl
theorem v_643 : Cond.code yX9_greedy cX9_greedy 4 (some .int) ∈ TB := qg Vt8 17 rfl
theorem v_640 : Cond.methodLink RL 93 yX9_greedy ∈ TB := qg Vt8 18 rfl
theorem v_641 : Cond.instanceMethod yX9_greedy ∈ TB := qg Vt8 19 rfl
theorem v_642 : Cond.selects RX9 yX9_greedy yX9_greedy ∈ TB := qg Vt8 20 rfl
theorem v_1086 : Cond.code yX10_greedy cX10_greedy 3 (some .int) ∈ TB := qg Vt8 21 rfl
theorem v_1083 : Cond.methodLink RL 96 yX10_greedy ∈ TB := qg Vt8 22 rfl
theorem v_1084 : Cond.instanceMethod yX10_greedy ∈ TB := qg Vt8 23 rfl
theorem v_1085 : Cond.selects RX10 yX10_greedy yX10_greedy ∈ TB := qg Vt8 24 rfl
theorem v_647 : Cond.code yX9_wouldNeed cX9_wouldNeed 2 (some .int) ∈ TB := qg Vt8 25 rfl
theorem v_644 : Cond.methodLink RL 97 yX9_wouldNeed ∈ TB := qg Vt8 26 rfl
theorem v_645 : Cond.instanceMethod yX9_wouldNeed ∈ TB := qg Vt8 27 rfl
theorem v_646 : Cond.selects RX9 yX9_wouldNeed yX9_wouldNeed ∈ TB := qg Vt8 28 rfl
theorem v_1090 : Cond.code yX10_wouldNeed cX10_wouldNeed 3 (some .int) ∈ TB := qg Vt8 29 rfl
def vt9 : List (Nat × Cond) := [(1087, Cond.methodLink RL 100 yX10_wouldNeed), (1088, Cond.instanceMethod yX10_wouldNeed), (1089, Cond.selects RX10 yX10_wouldNeed yX10_wouldNeed), (651, Cond.code yX9_wouldTurn cX9_wouldTurn 2 (some .int)), (648, Cond.methodLink RL 101 yX9_wouldTurn), (649, Cond.instanceMethod yX9_wouldTurn), (650, Cond.selects RX9 yX9_wouldTurn yX9_wouldTurn), (1094, Cond.code yX10_wouldTurn cX10_wouldTurn 2 (some .int)), (1091, Cond.methodLink RL 104 yX10_wouldTurn), (1092, Cond.instanceMethod yX10_wouldTurn), (1093, Cond.selects RX10 yX10_wouldTurn yX10_wouldTurn), (656, Cond.code yX9_ranked cX9_ranked 4 (some .int)), (653, Cond.methodLink RL 105 yX9_ranked), (654, Cond.instanceMethod yX9_ranked), (655, Cond.selects RX9 yX9_ranked yX9_ranked), (1145, Cond.code yX10_ranked cX10_ranked 6 (some .int)), (1142, Cond.methodLink RL 108 yX10_ranked), (1143, Cond.instanceMethod yX10_ranked), (1144, Cond.selects RX10 yX10_ranked yX10_ranked), (676, Cond.code yX9_describe cX9_describe 2 (some .int)), (673, Cond.methodLink RL 109 yX9_describe), (674, Cond.instanceMethod yX9_describe), (675, Cond.selects RX9 yX9_describe yX9_describe), (1153, Cond.code yX10_describe cX10_describe 2 (some .int)), (1150, Cond.methodLink RL 112 yX10_describe), (1151, Cond.instanceMethod yX10_describe), (1152, Cond.selects RX10 yX10_describe yX10_describe), (697, Cond.code yX9_show cX9_show 2 (some .int)), (694, Cond.methodLink RL 113 yX9_show), (695, Cond.instanceMethod yX9_show)]
set_option maxRecDepth 20000 in
theorem Vt9 : vt9.all (fun q => decide (lw_tbl[q.1]? = some q.2) && goodWord q.2) = true := by decide +kernel
theorem v_1087 : Cond.methodLink RL 100 yX10_wouldNeed ∈ TB := qg Vt9 0 rfl
theorem v_1088 : Cond.instanceMethod yX10_wouldNeed ∈ TB := qg Vt9 1 rfl
theorem v_1089 : Cond.selects RX10 yX10_wouldNeed yX10_wouldNeed ∈ TB := qg Vt9 2 rfl
theorem v_651 : Cond.code yX9_wouldTurn cX9_wouldTurn 2 (some .int) ∈ TB := qg Vt9 3 rfl
theorem v_648 : Cond.methodLink RL 101 yX9_wouldTurn ∈ TB := qg Vt9 4 rfl
theorem v_649 : Cond.instanceMethod yX9_wouldTurn ∈ TB := qg Vt9 5 rfl
theorem v_650 : Cond.selects RX9 yX9_wouldTurn yX9_wouldTurn ∈ TB := qg Vt9 6 rfl
theorem v_1094 : Cond.code yX10_wouldTurn cX10_wouldTurn 2 (some .int) ∈ TB := qg Vt9 7 rfl
theorem v_1091 : Cond.methodLink RL 104 yX10_wouldTurn ∈ TB := qg Vt9 8 rfl
theorem v_1092 : Cond.instanceMethod yX10_wouldTurn ∈ TB := qg Vt9 9 rfl
theorem v_1093 : Cond.selects RX10 yX10_wouldTurn yX10_wouldTurn ∈ TB := qg Vt9 10 rfl
theorem v_656 : Cond.code yX9_ranked cX9_ranked 4 (some .int) ∈ TB := qg Vt9 11 rfl
theorem v_653 : Cond.methodLink RL 105 yX9_ranked ∈ TB := qg Vt9 12 rfl
theorem v_654 : Cond.instanceMethod yX9_ranked ∈ TB := qg Vt9 13 rfl
theorem v_655 : Cond.selects RX9 yX9_ranked yX9_ranked ∈ TB := qg Vt9 14 rfl
theorem v_1145 : Cond.code yX10_ranked cX10_ranked 6 (some .int) ∈ TB := qg Vt9 15 rfl
theorem v_1142 : Cond.methodLink RL 108 yX10_ranked ∈ TB := qg Vt9 16 rfl
theorem v_1143 : Cond.instanceMethod yX10_ranked ∈ TB := qg Vt9 17 rfl
theorem v_1144 : Cond.selects RX10 yX10_ranked yX10_ranked ∈ TB := qg Vt9 18 rfl
theorem v_676 : Cond.code yX9_describe cX9_describe 2 (some .int) ∈ TB := qg Vt9 19 rfl
theorem v_673 : Cond.methodLink RL 109 yX9_describe ∈ TB := qg Vt9 20 rfl
theorem v_674 : Cond.instanceMethod yX9_describe ∈ TB := qg Vt9 21 rfl
theorem v_675 : Cond.selects RX9 yX9_describe yX9_describe ∈ TB := qg Vt9 22 rfl
theorem v_1153 : Cond.code yX10_describe cX10_describe 2 (some .int) ∈ TB := qg Vt9 23 rfl
theorem v_1150 : Cond.methodLink RL 112 yX10_describe ∈ TB := qg Vt9 24 rfl
theorem v_1151 : Cond.instanceMethod yX10_describe ∈ TB := qg Vt9 25 rfl
theorem v_1152 : Cond.selects RX10 yX10_describe yX10_describe ∈ TB := qg Vt9 26 rfl
theorem v_697 : Cond.code yX9_show cX9_show 2 (some .int) ∈ TB := qg Vt9 27 rfl
theorem v_694 : Cond.methodLink RL 113 yX9_show ∈ TB := qg Vt9 28 rfl
theorem v_695 : Cond.instanceMethod yX9_show ∈ TB := qg Vt9 29 rfl
def vt10 : List (Nat × Cond) := [(696, Cond.selects RX9 yX9_show yX9_show), (1165, Cond.code yX10_show cX10_show 3 (some .int)), (1162, Cond.methodLink RL 116 yX10_show), (1163, Cond.instanceMethod yX10_show), (1164, Cond.selects RX10 yX10_show yX10_show), (704, Cond.code yX9_sign cX9_sign 2 (some .int)), (701, Cond.methodLink RL 117 yX9_sign), (702, Cond.instanceMethod yX9_sign), (703, Cond.selects RX9 yX9_sign yX9_sign), (1169, Cond.code yX10_sign cX10_sign 2 (some .int)), (1166, Cond.methodLink RL 120 yX10_sign), (1167, Cond.instanceMethod yX10_sign), (1168, Cond.selects RX10 yX10_sign yX10_sign), (712, Cond.code yX9_append cX9_append 2 (some .int)), (709, Cond.methodLink RL 121 yX9_append), (710, Cond.instanceMethod yX9_append), (711, Cond.selects RX9 yX9_append yX9_append), (1173, Cond.code yX10_append cX10_append 2 (some .int)), (1170, Cond.methodLink RL 124 yX10_append), (1171, Cond.instanceMethod yX10_append), (1172, Cond.selects RX10 yX10_append yX10_append), (720, Cond.code yX9_read cX9_read 3 (some .int)), (717, Cond.methodLink RL 125 yX9_read), (718, Cond.instanceMethod yX9_read), (719, Cond.selects RX9 yX9_read yX9_read), (1177, Cond.code yX10_read cX10_read 4 (some .int)), (1174, Cond.methodLink RL 128 yX10_read), (1175, Cond.instanceMethod yX10_read), (1176, Cond.selects RX10 yX10_read yX10_read), (775, Cond.code yX9_refusal cX9_refusal 2 (some .int))]
set_option maxRecDepth 20000 in
theorem Vt10 : vt10.all (fun q => decide (lw_tbl[q.1]? = some q.2) && goodWord q.2) = true := by decide +kernel
theorem v_696 : Cond.selects RX9 yX9_show yX9_show ∈ TB := qg Vt10 0 rfl
theorem v_1165 : Cond.code yX10_show cX10_show 3 (some .int) ∈ TB := qg Vt10 1 rfl
theorem v_1162 : Cond.methodLink RL 116 yX10_show ∈ TB := qg Vt10 2 rfl
theorem v_1163 : Cond.instanceMethod yX10_show ∈ TB := qg Vt10 3 rfl
theorem v_1164 : Cond.selects RX10 yX10_show yX10_show ∈ TB := qg Vt10 4 rfl
theorem v_704 : Cond.code yX9_sign cX9_sign 2 (some .int) ∈ TB := qg Vt10 5 rfl
theorem v_701 : Cond.methodLink RL 117 yX9_sign ∈ TB := qg Vt10 6 rfl
theorem v_702 : Cond.instanceMethod yX9_sign ∈ TB := qg Vt10 7 rfl
theorem v_703 : Cond.selects RX9 yX9_sign yX9_sign ∈ TB := qg Vt10 8 rfl
theorem v_1169 : Cond.code yX10_sign cX10_sign 2 (some .int) ∈ TB := qg Vt10 9 rfl
theorem v_1166 : Cond.methodLink RL 120 yX10_sign ∈ TB := qg Vt10 10 rfl
theorem v_1167 : Cond.instanceMethod yX10_sign ∈ TB := qg Vt10 11 rfl
theorem v_1168 : Cond.selects RX10 yX10_sign yX10_sign ∈ TB := qg Vt10 12 rfl
theorem v_712 : Cond.code yX9_append cX9_append 2 (some .int) ∈ TB := qg Vt10 13 rfl
theorem v_709 : Cond.methodLink RL 121 yX9_append ∈ TB := qg Vt10 14 rfl
theorem v_710 : Cond.instanceMethod yX9_append ∈ TB := qg Vt10 15 rfl
theorem v_711 : Cond.selects RX9 yX9_append yX9_append ∈ TB := qg Vt10 16 rfl
theorem v_1173 : Cond.code yX10_append cX10_append 2 (some .int) ∈ TB := qg Vt10 17 rfl
theorem v_1170 : Cond.methodLink RL 124 yX10_append ∈ TB := qg Vt10 18 rfl
theorem v_1171 : Cond.instanceMethod yX10_append ∈ TB := qg Vt10 19 rfl
theorem v_1172 : Cond.selects RX10 yX10_append yX10_append ∈ TB := qg Vt10 20 rfl
theorem v_720 : Cond.code yX9_read cX9_read 3 (some .int) ∈ TB := qg Vt10 21 rfl
theorem v_717 : Cond.methodLink RL 125 yX9_read ∈ TB := qg Vt10 22 rfl
theorem v_718 : Cond.instanceMethod yX9_read ∈ TB := qg Vt10 23 rfl
theorem v_719 : Cond.selects RX9 yX9_read yX9_read ∈ TB := qg Vt10 24 rfl
theorem v_1177 : Cond.code yX10_read cX10_read 4 (some .int) ∈ TB := qg Vt10 25 rfl
theorem v_1174 : Cond.methodLink RL 128 yX10_read ∈ TB := qg Vt10 26 rfl
theorem v_1175 : Cond.instanceMethod yX10_read ∈ TB := qg Vt10 27 rfl
theorem v_1176 : Cond.selects RX10 yX10_read yX10_read ∈ TB := qg Vt10 28 rfl
theorem v_775 : Cond.code yX9_refusal cX9_refusal 2 (some .int) ∈ TB := qg Vt10 29 rfl
def vt11 : List (Nat × Cond) := [(772, Cond.methodLink RL 129 yX9_refusal), (773, Cond.instanceMethod yX9_refusal), (774, Cond.selects RX9 yX9_refusal yX9_refusal), (1208, Cond.code yX10_refusal cX10_refusal 2 (some .int)), (1205, Cond.methodLink RL 132 yX10_refusal), (1206, Cond.instanceMethod yX10_refusal), (1207, Cond.selects RX10 yX10_refusal yX10_refusal), (783, Cond.code yX9_account cX9_account 2 (some .int)), (780, Cond.methodLink RL 133 yX9_account), (781, Cond.instanceMethod yX9_account), (782, Cond.selects RX9 yX9_account yX9_account), (1212, Cond.code yX10_account cX10_account 2 (some .int)), (1209, Cond.methodLink RL 136 yX10_account), (1210, Cond.instanceMethod yX10_account), (1211, Cond.selects RX10 yX10_account yX10_account), (805, Cond.code yX9_isWell cX9_isWell 3 (some .int)), (802, Cond.methodLink RL 137 yX9_isWell), (803, Cond.instanceMethod yX9_isWell), (804, Cond.selects RX9 yX9_isWell yX9_isWell), (1228, Cond.code yX10_isWell cX10_isWell 3 (some .int)), (1225, Cond.methodLink RL 140 yX10_isWell), (1226, Cond.instanceMethod yX10_isWell), (1227, Cond.selects RX10 yX10_isWell yX10_isWell), (813, Cond.code yX9_mean cX9_mean 3 (some .int)), (810, Cond.methodLink RL 141 yX9_mean), (811, Cond.instanceMethod yX9_mean), (812, Cond.selects RX9 yX9_mean yX9_mean), (1232, Cond.code yX10_mean cX10_mean 3 (some .int)), (1229, Cond.methodLink RL 144 yX10_mean), (1230, Cond.instanceMethod yX10_mean)]
set_option maxRecDepth 20000 in
theorem Vt11 : vt11.all (fun q => decide (lw_tbl[q.1]? = some q.2) && goodWord q.2) = true := by decide +kernel
theorem v_772 : Cond.methodLink RL 129 yX9_refusal ∈ TB := qg Vt11 0 rfl
theorem v_773 : Cond.instanceMethod yX9_refusal ∈ TB := qg Vt11 1 rfl
theorem v_774 : Cond.selects RX9 yX9_refusal yX9_refusal ∈ TB := qg Vt11 2 rfl
theorem v_1208 : Cond.code yX10_refusal cX10_refusal 2 (some .int) ∈ TB := qg Vt11 3 rfl
theorem v_1205 : Cond.methodLink RL 132 yX10_refusal ∈ TB := qg Vt11 4 rfl
theorem v_1206 : Cond.instanceMethod yX10_refusal ∈ TB := qg Vt11 5 rfl
theorem v_1207 : Cond.selects RX10 yX10_refusal yX10_refusal ∈ TB := qg Vt11 6 rfl
theorem v_783 : Cond.code yX9_account cX9_account 2 (some .int) ∈ TB := qg Vt11 7 rfl
theorem v_780 : Cond.methodLink RL 133 yX9_account ∈ TB := qg Vt11 8 rfl
theorem v_781 : Cond.instanceMethod yX9_account ∈ TB := qg Vt11 9 rfl
theorem v_782 : Cond.selects RX9 yX9_account yX9_account ∈ TB := qg Vt11 10 rfl
theorem v_1212 : Cond.code yX10_account cX10_account 2 (some .int) ∈ TB := qg Vt11 11 rfl
theorem v_1209 : Cond.methodLink RL 136 yX10_account ∈ TB := qg Vt11 12 rfl
theorem v_1210 : Cond.instanceMethod yX10_account ∈ TB := qg Vt11 13 rfl
theorem v_1211 : Cond.selects RX10 yX10_account yX10_account ∈ TB := qg Vt11 14 rfl
theorem v_805 : Cond.code yX9_isWell cX9_isWell 3 (some .int) ∈ TB := qg Vt11 15 rfl
theorem v_802 : Cond.methodLink RL 137 yX9_isWell ∈ TB := qg Vt11 16 rfl
theorem v_803 : Cond.instanceMethod yX9_isWell ∈ TB := qg Vt11 17 rfl
theorem v_804 : Cond.selects RX9 yX9_isWell yX9_isWell ∈ TB := qg Vt11 18 rfl
theorem v_1228 : Cond.code yX10_isWell cX10_isWell 3 (some .int) ∈ TB := qg Vt11 19 rfl
theorem v_1225 : Cond.methodLink RL 140 yX10_isWell ∈ TB := qg Vt11 20 rfl
theorem v_1226 : Cond.instanceMethod yX10_isWell ∈ TB := qg Vt11 21 rfl
theorem v_1227 : Cond.selects RX10 yX10_isWell yX10_isWell ∈ TB := qg Vt11 22 rfl
theorem v_813 : Cond.code yX9_mean cX9_mean 3 (some .int) ∈ TB := qg Vt11 23 rfl
theorem v_810 : Cond.methodLink RL 141 yX9_mean ∈ TB := qg Vt11 24 rfl
theorem v_811 : Cond.instanceMethod yX9_mean ∈ TB := qg Vt11 25 rfl
theorem v_812 : Cond.selects RX9 yX9_mean yX9_mean ∈ TB := qg Vt11 26 rfl
theorem v_1232 : Cond.code yX10_mean cX10_mean 3 (some .int) ∈ TB := qg Vt11 27 rfl
theorem v_1229 : Cond.methodLink RL 144 yX10_mean ∈ TB := qg Vt11 28 rfl
theorem v_1230 : Cond.instanceMethod yX10_mean ∈ TB := qg Vt11 29 rfl
def vt12 : List (Nat × Cond) := [(1231, Cond.selects RX10 yX10_mean yX10_mean), (823, Cond.code yX9_undo cX9_undo 1 (some .int)), (820, Cond.methodLink RL 145 yX9_undo), (821, Cond.instanceMethod yX9_undo), (822, Cond.selects RX9 yX9_undo yX9_undo), (1247, Cond.code yX10_undo cX10_undo 1 (some .int)), (1244, Cond.methodLink RL 148 yX10_undo), (1245, Cond.instanceMethod yX10_undo), (1246, Cond.selects RX10 yX10_undo yX10_undo), (831, Cond.code yX9_save cX9_save 1 (some .int)), (828, Cond.methodLink RL 149 yX9_save), (829, Cond.instanceMethod yX9_save), (830, Cond.selects RX9 yX9_save yX9_save), (1251, Cond.code yX10_save cX10_save 1 (some .int)), (1248, Cond.methodLink RL 152 yX10_save), (1249, Cond.instanceMethod yX10_save), (1250, Cond.selects RX10 yX10_save yX10_save), (835, Cond.code yX9_restore cX9_restore 1 (some .int)), (832, Cond.methodLink RL 153 yX9_restore), (833, Cond.instanceMethod yX9_restore), (834, Cond.selects RX9 yX9_restore yX9_restore), (1255, Cond.code yX10_restore cX10_restore 1 (some .int)), (1252, Cond.methodLink RL 156 yX10_restore), (1253, Cond.instanceMethod yX10_restore), (1254, Cond.selects RX10 yX10_restore yX10_restore), (88, Cond.classLink RL 7 RX9), (89, Cond.instantiable RX9 13), (92, Cond.code yX9_init cX9_init 1 none), (90, Cond.methodLink RL 9 yX9_init), (91, Cond.instanceMethod yX9_init)]
set_option maxRecDepth 20000 in
theorem Vt12 : vt12.all (fun q => decide (lw_tbl[q.1]? = some q.2) && goodWord q.2) = true := by decide +kernel
theorem v_1231 : Cond.selects RX10 yX10_mean yX10_mean ∈ TB := qg Vt12 0 rfl
theorem v_823 : Cond.code yX9_undo cX9_undo 1 (some .int) ∈ TB := qg Vt12 1 rfl
theorem v_820 : Cond.methodLink RL 145 yX9_undo ∈ TB := qg Vt12 2 rfl
theorem v_821 : Cond.instanceMethod yX9_undo ∈ TB := qg Vt12 3 rfl
theorem v_822 : Cond.selects RX9 yX9_undo yX9_undo ∈ TB := qg Vt12 4 rfl
theorem v_1247 : Cond.code yX10_undo cX10_undo 1 (some .int) ∈ TB := qg Vt12 5 rfl
theorem v_1244 : Cond.methodLink RL 148 yX10_undo ∈ TB := qg Vt12 6 rfl
theorem v_1245 : Cond.instanceMethod yX10_undo ∈ TB := qg Vt12 7 rfl
theorem v_1246 : Cond.selects RX10 yX10_undo yX10_undo ∈ TB := qg Vt12 8 rfl
theorem v_831 : Cond.code yX9_save cX9_save 1 (some .int) ∈ TB := qg Vt12 9 rfl
theorem v_828 : Cond.methodLink RL 149 yX9_save ∈ TB := qg Vt12 10 rfl
theorem v_829 : Cond.instanceMethod yX9_save ∈ TB := qg Vt12 11 rfl
theorem v_830 : Cond.selects RX9 yX9_save yX9_save ∈ TB := qg Vt12 12 rfl
theorem v_1251 : Cond.code yX10_save cX10_save 1 (some .int) ∈ TB := qg Vt12 13 rfl
theorem v_1248 : Cond.methodLink RL 152 yX10_save ∈ TB := qg Vt12 14 rfl
theorem v_1249 : Cond.instanceMethod yX10_save ∈ TB := qg Vt12 15 rfl
theorem v_1250 : Cond.selects RX10 yX10_save yX10_save ∈ TB := qg Vt12 16 rfl
theorem v_835 : Cond.code yX9_restore cX9_restore 1 (some .int) ∈ TB := qg Vt12 17 rfl
theorem v_832 : Cond.methodLink RL 153 yX9_restore ∈ TB := qg Vt12 18 rfl
theorem v_833 : Cond.instanceMethod yX9_restore ∈ TB := qg Vt12 19 rfl
theorem v_834 : Cond.selects RX9 yX9_restore yX9_restore ∈ TB := qg Vt12 20 rfl
theorem v_1255 : Cond.code yX10_restore cX10_restore 1 (some .int) ∈ TB := qg Vt12 21 rfl
theorem v_1252 : Cond.methodLink RL 156 yX10_restore ∈ TB := qg Vt12 22 rfl
theorem v_1253 : Cond.instanceMethod yX10_restore ∈ TB := qg Vt12 23 rfl
theorem v_1254 : Cond.selects RX10 yX10_restore yX10_restore ∈ TB := qg Vt12 24 rfl
theorem v_88 : Cond.classLink RL 7 RX9 ∈ TB := qg Vt12 25 rfl
theorem v_89 : Cond.instantiable RX9 13 ∈ TB := qg Vt12 26 rfl
theorem v_92 : Cond.code yX9_init cX9_init 1 none ∈ TB := qg Vt12 27 rfl
theorem v_90 : Cond.methodLink RL 9 yX9_init ∈ TB := qg Vt12 28 rfl
theorem v_91 : Cond.instanceMethod yX9_init ∈ TB := qg Vt12 29 rfl
def vt13 : List (Nat × Cond) := [(840, Cond.classLink RL 10 RX10), (841, Cond.instantiable RX10 16), (844, Cond.code yX10_init cX10_init 1 none), (842, Cond.methodLink RL 12 yX10_init), (843, Cond.instanceMethod yX10_init)]
set_option maxRecDepth 20000 in
theorem Vt13 : vt13.all (fun q => decide (lw_tbl[q.1]? = some q.2) && goodWord q.2) = true := by decide +kernel
theorem v_840 : Cond.classLink RL 10 RX10 ∈ TB := qg Vt13 0 rfl
theorem v_841 : Cond.instantiable RX10 16 ∈ TB := qg Vt13 1 rfl
theorem v_844 : Cond.code yX10_init cX10_init 1 none ∈ TB := qg Vt13 2 rfl
theorem v_842 : Cond.methodLink RL 12 yX10_init ∈ TB := qg Vt13 3 rfl
theorem v_843 : Cond.instanceMethod yX10_init ∈ TB := qg Vt13 4 rfl
theorem gX6_9 : Fd8 RX6 9 6 0 := ⟨RX6, TX6, 3, rfl, inX6, tyE6, nmX6, by decide, v_176, rfl⟩
theorem gf6_0 : ∀ C T N', vwCl[6]? = some (C, T, N') → (T 0).2.2.2 = true ∧ parseFieldDescriptor (T 0).2.2.1 = some (.array .int) ∧ C = RX6 := fun C T N h => by cases h; exact ⟨rfl, by decide +kernel, rfl⟩
theorem gX0_9 : Fd8 RX0 9 0 0 := ⟨RX0, TX0, 5, rfl, inX0, tyE0, nmX0, by decide, v_194, rfl⟩
theorem gf0_0 : ∀ C T N', vwCl[0]? = some (C, T, N') → (T 0).2.2.2 = true ∧ parseFieldDescriptor (T 0).2.2.1 = some (.array .int) ∧ C = RX0 := fun C T N h => by cases h; exact ⟨rfl, by decide +kernel, rfl⟩
theorem gX0_15 : Fd8 RX0 15 0 1 := ⟨RX0, TX0, 5, rfl, inX0, tyE0, nmX0, by decide, v_195, rfl⟩
theorem gf0_1 : ∀ C T N', vwCl[0]? = some (C, T, N') → (T 1).2.2.2 = true ∧ parseFieldDescriptor (T 1).2.2.1 = some (.array .int) ∧ C = RX0 := fun C T N h => by cases h; exact ⟨rfl, by decide +kernel, rfl⟩
theorem gX1_9 : Fd8 RX1 9 1 0 := ⟨RX1, TX1, 3, rfl, inX1, tyE1, nmX1, by decide, v_219, rfl⟩
theorem gf1_0 : ∀ C T N', vwCl[1]? = some (C, T, N') → (T 0).2.2.2 = true ∧ parseFieldDescriptor (T 0).2.2.1 = some (.array .int) ∧ C = RX1 := fun C T N h => by cases h; exact ⟨rfl, by decide +kernel, rfl⟩
theorem gX1_15 : Fd8 RX1 15 1 1 := ⟨RX1, TX1, 3, rfl, inX1, tyE1, nmX1, by decide, v_220, rfl⟩
theorem gf1_1 : ∀ C T N', vwCl[1]? = some (C, T, N') → (T 1).2.2.2 = true ∧ parseFieldDescriptor (T 1).2.2.1 = some (.array .int) ∧ C = RX1 := fun C T N h => by cases h; exact ⟨rfl, by decide +kernel, rfl⟩
theorem gX3_9 : Fd8 RX3 9 3 0 := ⟨RX3, TX3, 1, rfl, inX3, tyE3, nmX3, by decide, v_236, rfl⟩
theorem gf3_0 : ∀ C T N', vwCl[3]? = some (C, T, N') → (T 0).2.2.2 = true ∧ parseFieldDescriptor (T 0).2.2.1 = some (.array .int) ∧ C = RX3 := fun C T N h => by cases h; exact ⟨rfl, by decide +kernel, rfl⟩
theorem gX7_9 : Fd8 RX7 9 7 0 := ⟨RX7, TX7, 7, rfl, inX7, tyE7, nmX7, by decide, v_246, rfl⟩
theorem gf7_0 : ∀ C T N', vwCl[7]? = some (C, T, N') → (T 0).2.2.2 = true ∧ parseFieldDescriptor (T 0).2.2.1 = some (.array .int) ∧ C = RX7 := fun C T N h => by cases h; exact ⟨rfl, by decide +kernel, rfl⟩
theorem gX2_9 : Fd8 RX2 9 2 0 := ⟨RX2, TX2, 2, rfl, inX2, tyE2, nmX2, by decide, v_279, rfl⟩
theorem gf2_0 : ∀ C T N', vwCl[2]? = some (C, T, N') → (T 0).2.2.2 = true ∧ parseFieldDescriptor (T 0).2.2.1 = some (.array .int) ∧ C = RX2 := fun C T N h => by cases h; exact ⟨rfl, by decide +kernel, rfl⟩
theorem gX10_9 : Fd8 RX10 9 10 0 := ⟨RX10, TX10, 16, rfl, inX10, tyE10, nmX10, by decide, v_846, rfl⟩
theorem gf10_0 : ∀ C T N', vwCl[10]? = some (C, T, N') → (T 0).2.2.2 = true ∧ parseFieldDescriptor (T 0).2.2.1 = some (.array .int) ∧ C = RX10 := fun C T N h => by cases h; exact ⟨rfl, by decide +kernel, rfl⟩
theorem gX10_13 : Fd8 RX10 13 10 1 := ⟨RX10, TX10, 16, rfl, inX10, tyE10, nmX10, by decide, v_847, rfl⟩
theorem gf10_1 : ∀ C T N', vwCl[10]? = some (C, T, N') → (T 1).2.2.2 = true ∧ parseFieldDescriptor (T 1).2.2.1 = some (.array .int) ∧ C = RX10 := fun C T N h => by cases h; exact ⟨rfl, by decide +kernel, rfl⟩
theorem gX10_16 : Fd8 RX10 16 10 2 := ⟨RX10, TX10, 16, rfl, inX10, tyE10, nmX10, by decide, v_848, rfl⟩
theorem gf10_2 : ∀ C T N', vwCl[10]? = some (C, T, N') → (T 2).2.2.2 = true ∧ parseFieldDescriptor (T 2).2.2.1 = some (.array .int) ∧ C = RX10 := fun C T N h => by cases h; exact ⟨rfl, by decide +kernel, rfl⟩
theorem gX10_19 : Fd8 RX10 19 10 3 := ⟨RX10, TX10, 16, rfl, inX10, tyE10, nmX10, by decide, v_849, rfl⟩
theorem gf10_3 : ∀ C T N', vwCl[10]? = some (C, T, N') → (T 3).2.2.2 = true ∧ parseFieldDescriptor (T 3).2.2.1 = some (.array .int) ∧ C = RX10 := fun C T N h => by cases h; exact ⟨rfl, by decide +kernel, rfl⟩
theorem gX10_22 : Fd8 RX10 22 10 7 := ⟨RX10, TX10, 16, rfl, inX10, tyE10, nmX10, by decide, v_853, rfl⟩
theorem gp10_7 : ∀ C T N', vwCl[10]? = some (C, T, N') → (T 7).2.2.2 = false ∧ parseFieldDescriptor (T 7).2.2.1 = some .int := fun C T N h => by cases h; exact ⟨rfl, by decide +kernel⟩
theorem gX10_26 : Fd8 RX10 26 10 9 := ⟨RX10, TX10, 16, rfl, inX10, tyE10, nmX10, by decide, v_855, rfl⟩
theorem gf10_9 : ∀ C T N', vwCl[10]? = some (C, T, N') → (T 9).2.2.2 = true ∧ parseFieldDescriptor (T 9).2.2.1 = some (.array .int) ∧ C = RX10 := fun C T N h => by cases h; exact ⟨rfl, by decide +kernel, rfl⟩
theorem gX10_29 : Fd8 RX10 29 10 11 := ⟨RX10, TX10, 16, rfl, inX10, tyE10, nmX10, by decide, v_857, rfl⟩
theorem gf10_11 : ∀ C T N', vwCl[10]? = some (C, T, N') → (T 11).2.2.2 = true ∧ parseFieldDescriptor (T 11).2.2.1 = some (.array .int) ∧ C = RX10 := fun C T N h => by cases h; exact ⟨rfl, by decide +kernel, rfl⟩
theorem gX10_32 : Fd8 RX10 32 10 12 := ⟨RX10, TX10, 16, rfl, inX10, tyE10, nmX10, by decide, v_858, rfl⟩
theorem gf10_12 : ∀ C T N', vwCl[10]? = some (C, T, N') → (T 12).2.2.2 = true ∧ parseFieldDescriptor (T 12).2.2.1 = some (.array .int) ∧ C = RX10 := fun C T N h => by cases h; exact ⟨rfl, by decide +kernel, rfl⟩
theorem gX8_9 : Fd8 RX8 9 8 0 := ⟨RX8, TX8, 11, rfl, inX8, tyE8, nmX8, by decide, v_106, rfl⟩
theorem gf8_0 : ∀ C T N', vwCl[8]? = some (C, T, N') → (T 0).2.2.2 = true ∧ parseFieldDescriptor (T 0).2.2.1 = some (.array .int) ∧ C = RX8 := fun C T N h => by cases h; exact ⟨rfl, by decide +kernel, rfl⟩
theorem gX8_15 : Fd8 RX8 15 8 1 := ⟨RX8, TX8, 11, rfl, inX8, tyE8, nmX8, by decide, v_107, rfl⟩
theorem gf8_1 : ∀ C T N', vwCl[8]? = some (C, T, N') → (T 1).2.2.2 = true ∧ parseFieldDescriptor (T 1).2.2.1 = some (.array .int) ∧ C = RX8 := fun C T N h => by cases h; exact ⟨rfl, by decide +kernel, rfl⟩
theorem gX8_18 : Fd8 RX8 18 8 2 := ⟨RX8, TX8, 11, rfl, inX8, tyE8, nmX8, by decide, v_109, rfl⟩
theorem gf8_2 : ∀ C T N', vwCl[8]? = some (C, T, N') → (T 2).2.2.2 = true ∧ parseFieldDescriptor (T 2).2.2.1 = some (.array .int) ∧ C = RX8 := fun C T N h => by cases h; exact ⟨rfl, by decide +kernel, rfl⟩
theorem gX8_21 : Fd8 RX8 21 8 3 := ⟨RX8, TX8, 11, rfl, inX8, tyE8, nmX8, by decide, v_111, rfl⟩
theorem gf8_3 : ∀ C T N', vwCl[8]? = some (C, T, N') → (T 3).2.2.2 = true ∧ parseFieldDescriptor (T 3).2.2.1 = some (.array .int) ∧ C = RX8 := fun C T N h => by cases h; exact ⟨rfl, by decide +kernel, rfl⟩
theorem gX8_24 : Fd8 RX8 24 8 4 := ⟨RX8, TX8, 11, rfl, inX8, tyE8, nmX8, by decide, v_113, rfl⟩
theorem gf8_4 : ∀ C T N', vwCl[8]? = some (C, T, N') → (T 4).2.2.2 = true ∧ parseFieldDescriptor (T 4).2.2.1 = some (.array .int) ∧ C = RX8 := fun C T N h => by cases h; exact ⟨rfl, by decide +kernel, rfl⟩
theorem gX8_27 : Fd8 RX8 27 8 5 := ⟨RX8, TX8, 11, rfl, inX8, tyE8, nmX8, by decide, v_115, rfl⟩
theorem gf8_5 : ∀ C T N', vwCl[8]? = some (C, T, N') → (T 5).2.2.2 = true ∧ parseFieldDescriptor (T 5).2.2.1 = some (.array .int) ∧ C = RX8 := fun C T N h => by cases h; exact ⟨rfl, by decide +kernel, rfl⟩
theorem kkX8_30 : WV RX8 30 RX8 yX8_empty cX8_empty 2 none 1 := ⟨v_105, v_102, v_104, v_0, v_75, by decide +kernel⟩
theorem gX4_11 : Fd8 RX4 11 4 0 := ⟨RX4, TX4, 3, rfl, inX4, tyE4, nmX4, by decide, v_159, rfl⟩
theorem gf4_0 : ∀ C T N', vwCl[4]? = some (C, T, N') → (T 0).2.2.2 = true ∧ parseFieldDescriptor (T 0).2.2.1 = some (.array (.object "FortressWatch$Wall")) ∧ C = RX4 := fun C T N h => by cases h; exact ⟨rfl, by decide +kernel, rfl⟩
theorem df8 {B a : Nat} : ∀ j, j < 11 → defaultValue (tyX8 j) = rv B (([some (a + 1), some (a + 2), some (a + 3), some (a + 4), some (a + 5), some (a + 6), none, none, none, none, none] : List (Option Nat)).getD j none) 0 := fun j hj => by
  rcases (show j = 0 ∨ j = 1 ∨ j = 2 ∨ j = 3 ∨ j = 4 ∨ j = 5 ∨ j = 6 ∨ j = 7 ∨ j = 8 ∨ j = 9 ∨ j = 10 by omega) with rfl | rfl | rfl | rfl | rfl | rfl | rfl | rfl | rfl | rfl | rfl <;> rfl
theorem hX4_17 : WI RX4 17 yX8_init cX8_init 2 := ⟨v_100, v_158, v_99, v_75, rfl, by decide +kernel⟩
theorem hX9_9 : WI RX9 9 yX8_init cX8_init 2 := ⟨v_100, v_98, v_99, v_75, rfl, by decide +kernel⟩
theorem gX9_10 : Fd8 RX9 10 9 0 := ⟨RX9, TX9, 13, rfl, inX9, tyE9, nmX9, by decide, v_303, rfl⟩
theorem gf9_0 : ∀ C T N', vwCl[9]? = some (C, T, N') → (T 0).2.2.2 = true ∧ parseFieldDescriptor (T 0).2.2.1 = some (.object "FortressWatch$Wall") ∧ C = RX9 := fun C T N h => by cases h; exact ⟨rfl, by decide +kernel, rfl⟩
theorem gX9_16 : Fd8 RX9 16 9 1 := ⟨RX9, TX9, 13, rfl, inX9, tyE9, nmX9, by decide, v_304, rfl⟩
theorem gf9_1 : ∀ C T N', vwCl[9]? = some (C, T, N') → (T 1).2.2.2 = true ∧ parseFieldDescriptor (T 1).2.2.1 = some (.object "FortressWatch$Wall") ∧ C = RX9 := fun C T N h => by cases h; exact ⟨rfl, by decide +kernel, rfl⟩
theorem gX9_19 : Fd8 RX9 19 9 2 := ⟨RX9, TX9, 13, rfl, inX9, tyE9, nmX9, by decide, v_305, rfl⟩
theorem gf9_2 : ∀ C T N', vwCl[9]? = some (C, T, N') → (T 2).2.2.2 = true ∧ parseFieldDescriptor (T 2).2.2.1 = some (.object "FortressWatch$Wall") ∧ C = RX9 := fun C T N h => by cases h; exact ⟨rfl, by decide +kernel, rfl⟩
theorem df4 {B : Nat} : ∀ j, j < 3 → defaultValue (tyX4 j) = rv B (([.some 23, .none, .none] : List (Option Nat)).getD j none) 0 := fun j hj => by
  rcases (show j = 0 ∨ j = 1 ∨ j = 2 by omega) with rfl | rfl | rfl <;> rfl
theorem hX9_24 : WI RX9 24 yX4_init cX4_init 2 := ⟨v_154, v_152, v_153, v_76, rfl, by decide +kernel⟩
theorem gX9_25 : Fd8 RX9 25 9 3 := ⟨RX9, TX9, 13, rfl, inX9, tyE9, nmX9, by decide, v_306, rfl⟩
theorem gf9_3 : ∀ C T N', vwCl[9]? = some (C, T, N') → (T 3).2.2.2 = true ∧ parseFieldDescriptor (T 3).2.2.1 = some (.object "FortressWatch$Past") ∧ C = RX9 := fun C T N h => by cases h; exact ⟨rfl, by decide +kernel, rfl⟩
theorem df6 {B : Nat} : ∀ j, j < 3 → defaultValue (tyX6 j) = rv B (([.some 81, .none, .none] : List (Option Nat)).getD j none) 0 := fun j hj => by
  rcases (show j = 0 ∨ j = 1 ∨ j = 2 by omega) with rfl | rfl | rfl <;> rfl
theorem hX9_31 : WIN RX9 31 RX9 yX6_init cX6_init 1 := ⟨v_174, List.mem_of_getElem? (i := 0) rfl, v_173, v_77, rfl, by decide +kernel⟩
theorem gX9_32 : Fd8 RX9 32 9 4 := ⟨RX9, TX9, 13, rfl, inX9, tyE9, nmX9, by decide, v_307, rfl⟩
theorem gf9_4 : ∀ C T N', vwCl[9]? = some (C, T, N') → (T 4).2.2.2 = true ∧ parseFieldDescriptor (T 4).2.2.1 = some (.object "FortressWatch$Sights") ∧ C = RX9 := fun C T N h => by cases h; exact ⟨rfl, by decide +kernel, rfl⟩
theorem df0 {B : Nat} : ∀ j, j < 5 → defaultValue (tyX0 j) = rv B (([.some 83, .some 84, .none, .none, .none] : List (Option Nat)).getD j none) 0 := fun j hj => by
  rcases (show j = 0 ∨ j = 1 ∨ j = 2 ∨ j = 3 ∨ j = 4 by omega) with rfl | rfl | rfl | rfl | rfl <;> rfl
theorem hX9_38 : WIN RX9 38 RX9 yX0_init cX0_init 1 := ⟨v_192, List.mem_of_getElem? (i := 1) rfl, v_191, v_78, rfl, by decide +kernel⟩
theorem gX9_39 : Fd8 RX9 39 9 5 := ⟨RX9, TX9, 13, rfl, inX9, tyE9, nmX9, by decide, v_308, rfl⟩
theorem gf9_5 : ∀ C T N', vwCl[9]? = some (C, T, N') → (T 5).2.2.2 = true ∧ parseFieldDescriptor (T 5).2.2.1 = some (.object "FortressWatch$Chooser") ∧ C = RX9 := fun C T N h => by cases h; exact ⟨rfl, by decide +kernel, rfl⟩
theorem df1 {B : Nat} : ∀ j, j < 3 → defaultValue (tyX1 j) = rv B (([.some 86, .some 87, .none] : List (Option Nat)).getD j none) 0 := fun j hj => by
  rcases (show j = 0 ∨ j = 1 ∨ j = 2 by omega) with rfl | rfl | rfl <;> rfl
theorem hX9_45 : WIN RX9 45 RX9 yX1_init cX1_init 1 := ⟨v_217, List.mem_of_getElem? (i := 2) rfl, v_216, v_79, rfl, by decide +kernel⟩
theorem gX9_46 : Fd8 RX9 46 9 6 := ⟨RX9, TX9, 13, rfl, inX9, tyE9, nmX9, by decide, v_309, rfl⟩
theorem gf9_6 : ∀ C T N', vwCl[9]? = some (C, T, N') → (T 6).2.2.2 = true ∧ parseFieldDescriptor (T 6).2.2.1 = some (.object "FortressWatch$Gaps") ∧ C = RX9 := fun C T N h => by cases h; exact ⟨rfl, by decide +kernel, rfl⟩
theorem df3 {B : Nat} : ∀ j, j < 1 → defaultValue (tyX3 j) = rv B (([.some 89] : List (Option Nat)).getD j none) 0 := fun j hj => by
  rcases (show j = 0 by omega) with rfl <;> rfl
theorem hX9_52 : WIN RX9 52 RX9 yX3_init cX3_init 1 := ⟨v_234, List.mem_of_getElem? (i := 3) rfl, v_233, v_80, rfl, by decide +kernel⟩
theorem gX9_53 : Fd8 RX9 53 9 7 := ⟨RX9, TX9, 13, rfl, inX9, tyE9, nmX9, by decide, v_310, rfl⟩
theorem gf9_7 : ∀ C T N', vwCl[9]? = some (C, T, N') → (T 7).2.2.2 = true ∧ parseFieldDescriptor (T 7).2.2.1 = some (.object "FortressWatch$Order") ∧ C = RX9 := fun C T N h => by cases h; exact ⟨rfl, by decide +kernel, rfl⟩
theorem df7 {B : Nat} : ∀ j, j < 7 → defaultValue (tyX7 j) = rv B (([.some 91, .none, .none, .none, .none, .none, .none] : List (Option Nat)).getD j none) 0 := fun j hj => by
  rcases (show j = 0 ∨ j = 1 ∨ j = 2 ∨ j = 3 ∨ j = 4 ∨ j = 5 ∨ j = 6 by omega) with rfl | rfl | rfl | rfl | rfl | rfl | rfl <;> rfl
theorem hX9_59 : WIN RX9 59 RX9 yX7_init cX7_init 1 := ⟨v_244, List.mem_of_getElem? (i := 4) rfl, v_243, v_81, rfl, by decide +kernel⟩
theorem gX9_60 : Fd8 RX9 60 9 8 := ⟨RX9, TX9, 13, rfl, inX9, tyE9, nmX9, by decide, v_311, rfl⟩
theorem gf9_8 : ∀ C T N', vwCl[9]? = some (C, T, N') → (T 8).2.2.2 = true ∧ parseFieldDescriptor (T 8).2.2.1 = some (.object "FortressWatch$Text") ∧ C = RX9 := fun C T N h => by cases h; exact ⟨rfl, by decide +kernel, rfl⟩
theorem df2 {B : Nat} : ∀ j, j < 2 → defaultValue (tyX2 j) = rv B (([.some 93, .none] : List (Option Nat)).getD j none) 0 := fun j hj => by
  rcases (show j = 0 ∨ j = 1 by omega) with rfl | rfl <;> rfl
theorem hX9_66 : WIN RX9 66 RX9 yX2_init cX2_init 1 := ⟨v_277, List.mem_of_getElem? (i := 5) rfl, v_276, v_82, rfl, by decide +kernel⟩
theorem gX9_67 : Fd8 RX9 67 9 9 := ⟨RX9, TX9, 13, rfl, inX9, tyE9, nmX9, by decide, v_312, rfl⟩
theorem gf9_9 : ∀ C T N', vwCl[9]? = some (C, T, N') → (T 9).2.2.2 = true ∧ parseFieldDescriptor (T 9).2.2.1 = some (.object "FortressWatch$Line") ∧ C = RX9 := fun C T N h => by cases h; exact ⟨rfl, by decide +kernel, rfl⟩
theorem df5 {B : Nat} : ∀ j, j < 3 → defaultValue (tyX5 j) = rv B (([.none, .none, .none] : List (Option Nat)).getD j none) 0 := fun j hj => by
  rcases (show j = 0 ∨ j = 1 ∨ j = 2 by omega) with rfl | rfl | rfl <;> rfl
theorem hX9_73 : WIN RX9 73 RX9 yX5_init cX5_init 1 := ⟨v_291, List.mem_of_getElem? (i := 6) rfl, v_290, v_83, rfl, by decide +kernel⟩
theorem gX9_74 : Fd8 RX9 74 9 10 := ⟨RX9, TX9, 13, rfl, inX9, tyE9, nmX9, by decide, v_313, rfl⟩
theorem gf9_10 : ∀ C T N', vwCl[9]? = some (C, T, N') → (T 10).2.2.2 = true ∧ parseFieldDescriptor (T 10).2.2.1 = some (.object "FortressWatch$Refused") ∧ C = RX9 := fun C T N h => by cases h; exact ⟨rfl, by decide +kernel, rfl⟩
theorem gX9_78 : Fd8 RX9 78 9 11 := ⟨RX9, TX9, 13, rfl, inX9, tyE9, nmX9, by decide, v_314, rfl⟩
theorem gp9_11 : ∀ C T N', vwCl[9]? = some (C, T, N') → (T 11).2.2.2 = false ∧ parseFieldDescriptor (T 11).2.2.1 = some .boolean := fun C T N h => by cases h; exact ⟨rfl, by decide +kernel⟩
theorem gX9_82 : Fd8 RX9 82 9 12 := ⟨RX9, TX9, 13, rfl, inX9, tyE9, nmX9, by decide, v_315, rfl⟩
theorem gp9_12 : ∀ C T N', vwCl[9]? = some (C, T, N') → (T 12).2.2.2 = false ∧ parseFieldDescriptor (T 12).2.2.1 = some .int := fun C T N h => by cases h; exact ⟨rfl, by decide +kernel⟩
theorem kkL_13 : WV RL 13 RX9 yX9_post cX9_post 4 (some .int) 3 := ⟨v_346, v_343, v_344, v_345, v_74, by decide +kernel⟩
theorem kkL_17 : WV RL 17 RX10 yX10_post cX10_post 4 (some .int) 3 := ⟨v_898, v_895, v_896, v_897, v_84, by decide +kernel⟩
theorem kkL_18 : WV RL 18 RX9 yX9_tear cX9_tear 2 (some .int) 1 := ⟨v_397, v_394, v_395, v_396, v_74, by decide +kernel⟩
theorem kkL_22 : WV RL 22 RX10 yX10_tear cX10_tear 2 (some .int) 1 := ⟨v_946, v_943, v_944, v_945, v_84, by decide +kernel⟩
theorem kkL_23 : WV RL 23 RX9 yX9_reach cX9_reach 4 (some .int) 3 := ⟨v_413, v_410, v_411, v_412, v_74, by decide +kernel⟩
theorem kkL_26 : WV RL 26 RX10 yX10_reach cX10_reach 4 (some .int) 3 := ⟨v_958, v_955, v_956, v_957, v_84, by decide +kernel⟩
theorem kkL_27 : WV RL 27 RX9 yX9_blind cX9_blind 5 (some .int) 3 := ⟨v_421, v_418, v_419, v_420, v_74, by decide +kernel⟩
theorem kkL_30 : WV RL 30 RX10 yX10_blind cX10_blind 4 (some .int) 3 := ⟨v_966, v_963, v_964, v_965, v_84, by decide +kernel⟩
theorem kkL_31 : WV RL 31 RX9 yX9_see cX9_see 3 (some .int) 1 := ⟨v_466, v_463, v_464, v_465, v_74, by decide +kernel⟩
theorem kkL_34 : WV RL 34 RX10 yX10_see cX10_see 2 (some .int) 1 := ⟨v_991, v_988, v_989, v_990, v_84, by decide +kernel⟩
theorem kkL_35 : WV RL 35 RX9 yX9_man cX9_man 4 (some .int) 2 := ⟨v_474, v_471, v_472, v_473, v_74, by decide +kernel⟩
theorem kkL_39 : WV RL 39 RX10 yX10_man cX10_man 3 (some .int) 2 := ⟨v_999, v_996, v_997, v_998, v_84, by decide +kernel⟩
theorem kkL_40 : WV RL 40 RX9 yX9_hour cX9_hour 2 (some .int) 1 := ⟨v_494, v_491, v_492, v_493, v_74, by decide +kernel⟩
theorem kkL_43 : WV RL 43 RX10 yX10_hour cX10_hour 2 (some .int) 1 := ⟨v_1026, v_1023, v_1024, v_1025, v_84, by decide +kernel⟩
theorem kkL_44 : WV RL 44 RX9 yX9_watch cX9_watch 1 (some .int) 0 := ⟨v_505, v_502, v_503, v_504, v_74, by decide +kernel⟩
theorem kkL_48 : WV RL 48 RX10 yX10_watch cX10_watch 1 (some .int) 0 := ⟨v_1037, v_1034, v_1035, v_1036, v_84, by decide +kernel⟩
theorem kkL_49 : WV RL 49 RX9 yX9_postOf cX9_postOf 3 (some .int) 2 := ⟨v_532, v_529, v_530, v_531, v_74, by decide +kernel⟩
theorem kkL_52 : WV RL 52 RX10 yX10_postOf cX10_postOf 3 (some .int) 2 := ⟨v_1098, v_1095, v_1096, v_1097, v_84, by decide +kernel⟩
theorem kkL_53 : WV RL 53 RX9 yX9_sees cX9_sees 3 (some .int) 2 := ⟨v_545, v_542, v_543, v_544, v_74, by decide +kernel⟩
theorem kkL_56 : WV RL 56 RX10 yX10_sees cX10_sees 3 (some .int) 2 := ⟨v_1110, v_1107, v_1108, v_1109, v_84, by decide +kernel⟩
theorem kkL_57 : WV RL 57 RX9 yX9_watched cX9_watched 2 (some .int) 1 := ⟨v_550, v_547, v_548, v_549, v_74, by decide +kernel⟩
theorem kkL_60 : WV RL 60 RX10 yX10_watched cX10_watched 2 (some .int) 1 := ⟨v_1114, v_1111, v_1112, v_1113, v_84, by decide +kernel⟩
theorem kkL_61 : WV RL 61 RX9 yX9_seenBy cX9_seenBy 2 (some .int) 1 := ⟨v_558, v_555, v_556, v_557, v_74, by decide +kernel⟩
theorem kkL_64 : WV RL 64 RX10 yX10_seenBy cX10_seenBy 4 (some .int) 1 := ⟨v_1122, v_1119, v_1120, v_1121, v_84, by decide +kernel⟩
theorem kkL_65 : WV RL 65 RX9 yX9_gapOf cX9_gapOf 3 (some .int) 2 := ⟨v_562, v_559, v_560, v_561, v_74, by decide +kernel⟩
theorem kkL_68 : WV RL 68 RX10 yX10_gapOf cX10_gapOf 4 (some .int) 2 := ⟨v_1126, v_1123, v_1124, v_1125, v_84, by decide +kernel⟩
theorem kkL_69 : WV RL 69 RX9 yX9_fewest cX9_fewest 1 (some .int) 0 := ⟨v_600, v_597, v_598, v_599, v_74, by decide +kernel⟩
theorem kkL_72 : WV RL 72 RX10 yX10_fewest cX10_fewest 1 (some .int) 0 := ⟨v_1054, v_1051, v_1052, v_1053, v_84, by decide +kernel⟩
theorem kkL_73 : WV RL 73 RX9 yX9_fewestAgain cX9_fewestAgain 1 (some .int) 0 := ⟨v_604, v_601, v_602, v_603, v_74, by decide +kernel⟩
theorem kkL_76 : WV RL 76 RX10 yX10_fewestAgain cX10_fewestAgain 1 (some .int) 0 := ⟨v_1058, v_1055, v_1056, v_1057, v_84, by decide +kernel⟩
theorem kkL_77 : WV RL 77 RX9 yX9_watches cX9_watches 1 (some .int) 0 := ⟨v_623, v_620, v_621, v_622, v_74, by decide +kernel⟩
theorem kkL_80 : WV RL 80 RX10 yX10_watches cX10_watches 4 (some .int) 0 := ⟨v_1062, v_1059, v_1060, v_1061, v_84, by decide +kernel⟩
theorem kkL_81 : WV RL 81 RX9 yX9_isFull cX9_isFull 2 (some .int) 1 := ⟨v_627, v_624, v_625, v_626, v_74, by decide +kernel⟩
theorem kkL_84 : WV RL 84 RX10 yX10_isFull cX10_isFull 2 (some .int) 1 := ⟨v_1070, v_1067, v_1068, v_1069, v_84, by decide +kernel⟩
theorem kkL_85 : WV RL 85 RX9 yX9_spare cX9_spare 5 (some .int) 0 := ⟨v_631, v_628, v_629, v_630, v_74, by decide +kernel⟩
theorem kkL_88 : WV RL 88 RX10 yX10_spare cX10_spare 5 (some .int) 0 := ⟨v_1074, v_1071, v_1072, v_1073, v_84, by decide +kernel⟩
theorem kkL_89 : WV RL 89 RX9 yX9_next cX9_next 1 (some .int) 0 := ⟨v_635, v_632, v_633, v_634, v_74, by decide +kernel⟩
theorem kkL_92 : WV RL 92 RX10 yX10_next cX10_next 1 (some .int) 0 := ⟨v_1078, v_1075, v_1076, v_1077, v_84, by decide +kernel⟩
theorem kkL_93 : WV RL 93 RX9 yX9_greedy cX9_greedy 4 (some .int) 0 := ⟨v_643, v_640, v_641, v_642, v_74, by decide +kernel⟩
theorem kkL_96 : WV RL 96 RX10 yX10_greedy cX10_greedy 3 (some .int) 0 := ⟨v_1086, v_1083, v_1084, v_1085, v_84, by decide +kernel⟩
theorem kkL_97 : WV RL 97 RX9 yX9_wouldNeed cX9_wouldNeed 2 (some .int) 1 := ⟨v_647, v_644, v_645, v_646, v_74, by decide +kernel⟩
theorem kkL_100 : WV RL 100 RX10 yX10_wouldNeed cX10_wouldNeed 3 (some .int) 1 := ⟨v_1090, v_1087, v_1088, v_1089, v_84, by decide +kernel⟩
theorem kkL_101 : WV RL 101 RX9 yX9_wouldTurn cX9_wouldTurn 2 (some .int) 1 := ⟨v_651, v_648, v_649, v_650, v_74, by decide +kernel⟩
theorem kkL_104 : WV RL 104 RX10 yX10_wouldTurn cX10_wouldTurn 2 (some .int) 1 := ⟨v_1094, v_1091, v_1092, v_1093, v_84, by decide +kernel⟩
theorem kkL_105 : WV RL 105 RX9 yX9_ranked cX9_ranked 4 (some .int) 2 := ⟨v_656, v_653, v_654, v_655, v_74, by decide +kernel⟩
theorem kkL_108 : WV RL 108 RX10 yX10_ranked cX10_ranked 6 (some .int) 2 := ⟨v_1145, v_1142, v_1143, v_1144, v_84, by decide +kernel⟩
theorem kkL_109 : WV RL 109 RX9 yX9_describe cX9_describe 2 (some .int) 1 := ⟨v_676, v_673, v_674, v_675, v_74, by decide +kernel⟩
theorem kkL_112 : WV RL 112 RX10 yX10_describe cX10_describe 2 (some .int) 1 := ⟨v_1153, v_1150, v_1151, v_1152, v_84, by decide +kernel⟩
theorem kkL_113 : WV RL 113 RX9 yX9_show cX9_show 2 (some .int) 0 := ⟨v_697, v_694, v_695, v_696, v_74, by decide +kernel⟩
theorem kkL_116 : WV RL 116 RX10 yX10_show cX10_show 3 (some .int) 0 := ⟨v_1165, v_1162, v_1163, v_1164, v_84, by decide +kernel⟩
theorem kkL_117 : WV RL 117 RX9 yX9_sign cX9_sign 2 (some .int) 1 := ⟨v_704, v_701, v_702, v_703, v_74, by decide +kernel⟩
theorem kkL_120 : WV RL 120 RX10 yX10_sign cX10_sign 2 (some .int) 1 := ⟨v_1169, v_1166, v_1167, v_1168, v_84, by decide +kernel⟩
theorem kkL_121 : WV RL 121 RX9 yX9_append cX9_append 2 (some .int) 1 := ⟨v_712, v_709, v_710, v_711, v_74, by decide +kernel⟩
theorem kkL_124 : WV RL 124 RX10 yX10_append cX10_append 2 (some .int) 1 := ⟨v_1173, v_1170, v_1171, v_1172, v_84, by decide +kernel⟩
theorem kkL_125 : WV RL 125 RX9 yX9_read cX9_read 3 (some .int) 0 := ⟨v_720, v_717, v_718, v_719, v_74, by decide +kernel⟩
theorem kkL_128 : WV RL 128 RX10 yX10_read cX10_read 4 (some .int) 0 := ⟨v_1177, v_1174, v_1175, v_1176, v_84, by decide +kernel⟩
theorem kkL_129 : WV RL 129 RX9 yX9_refusal cX9_refusal 2 (some .int) 1 := ⟨v_775, v_772, v_773, v_774, v_74, by decide +kernel⟩
theorem kkL_132 : WV RL 132 RX10 yX10_refusal cX10_refusal 2 (some .int) 1 := ⟨v_1208, v_1205, v_1206, v_1207, v_84, by decide +kernel⟩
theorem kkL_133 : WV RL 133 RX9 yX9_account cX9_account 2 (some .int) 1 := ⟨v_783, v_780, v_781, v_782, v_74, by decide +kernel⟩
theorem kkL_136 : WV RL 136 RX10 yX10_account cX10_account 2 (some .int) 1 := ⟨v_1212, v_1209, v_1210, v_1211, v_84, by decide +kernel⟩
theorem kkL_137 : WV RL 137 RX9 yX9_isWell cX9_isWell 3 (some .int) 0 := ⟨v_805, v_802, v_803, v_804, v_74, by decide +kernel⟩
theorem kkL_140 : WV RL 140 RX10 yX10_isWell cX10_isWell 3 (some .int) 0 := ⟨v_1228, v_1225, v_1226, v_1227, v_84, by decide +kernel⟩
theorem kkL_141 : WV RL 141 RX9 yX9_mean cX9_mean 3 (some .int) 0 := ⟨v_813, v_810, v_811, v_812, v_74, by decide +kernel⟩
theorem kkL_144 : WV RL 144 RX10 yX10_mean cX10_mean 3 (some .int) 0 := ⟨v_1232, v_1229, v_1230, v_1231, v_84, by decide +kernel⟩
theorem kkL_145 : WV RL 145 RX9 yX9_undo cX9_undo 1 (some .int) 0 := ⟨v_823, v_820, v_821, v_822, v_74, by decide +kernel⟩
theorem kkL_148 : WV RL 148 RX10 yX10_undo cX10_undo 1 (some .int) 0 := ⟨v_1247, v_1244, v_1245, v_1246, v_84, by decide +kernel⟩
theorem kkL_149 : WV RL 149 RX9 yX9_save cX9_save 1 (some .int) 0 := ⟨v_831, v_828, v_829, v_830, v_74, by decide +kernel⟩
theorem kkL_152 : WV RL 152 RX10 yX10_save cX10_save 1 (some .int) 0 := ⟨v_1251, v_1248, v_1249, v_1250, v_84, by decide +kernel⟩
theorem kkL_153 : WV RL 153 RX9 yX9_restore cX9_restore 1 (some .int) 0 := ⟨v_835, v_832, v_833, v_834, v_74, by decide +kernel⟩
theorem kkL_156 : WV RL 156 RX10 yX10_restore cX10_restore 1 (some .int) 0 := ⟨v_1255, v_1252, v_1253, v_1254, v_84, by decide +kernel⟩
theorem df9 {B : Nat} : ∀ j, j < 13 → defaultValue (tyX9 j) = rv B (([.some 1, .some 8, .some 15, .some 22, .some 80, .some 82, .some 85, .some 88, .some 90, .some 92, .some 94, .none, .none] : List (Option Nat)).getD j none) 0 := fun j hj => by
  rcases (show j = 0 ∨ j = 1 ∨ j = 2 ∨ j = 3 ∨ j = 4 ∨ j = 5 ∨ j = 6 ∨ j = 7 ∨ j = 8 ∨ j = 9 ∨ j = 10 ∨ j = 11 ∨ j = 12 by omega) with rfl | rfl | rfl | rfl | rfl | rfl | rfl | rfl | rfl | rfl | rfl | rfl | rfl <;> rfl
theorem hL_9 : WI RL 9 yX9_init cX9_init 1 := ⟨v_92, v_90, v_91, v_74, rfl, by decide +kernel⟩
theorem df10 {B : Nat} : ∀ j, j < 16 → defaultValue (tyX10 j) = rv B (([.some 96, .some 97, .some 98, .some 99, .none, .none, .none, .none, .none, .some 100, .none, .some 101, .some 102, .none, .none, .none] : List (Option Nat)).getD j none) 0 := fun j hj => by
  rcases (show j = 0 ∨ j = 1 ∨ j = 2 ∨ j = 3 ∨ j = 4 ∨ j = 5 ∨ j = 6 ∨ j = 7 ∨ j = 8 ∨ j = 9 ∨ j = 10 ∨ j = 11 ∨ j = 12 ∨ j = 13 ∨ j = 14 ∨ j = 15 by omega) with rfl | rfl | rfl | rfl | rfl | rfl | rfl | rfl | rfl | rfl | rfl | rfl | rfl | rfl | rfl | rfl <;> rfl
theorem hL_12 : WI RL 12 yX10_init cX10_init 1 := ⟨v_844, v_842, v_843, v_84, rfl, by decide +kernel⟩
