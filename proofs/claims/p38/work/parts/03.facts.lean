/-! by program: the words of the tables, the fields, the calls; loops as predicates -/
theorem inX0 : ∀ w ∈ u_ws RX0 TX0 5, w ∈ TB := by
  have e : u_ws RX0 TX0 5 = [448, 450, 452, 454, 456].filterMap (fun i : Nat => lw_tbl[i]?) := by decide +kernel
  have g : (u_ws RX0 TX0 5).all goodWord = true := by decide +kernel
  intro w hw
  have hg := List.all_eq_true.mp g w hw
  rw [e] at hw
  obtain ⟨i, -, hi⟩ := List.mem_filterMap.mp hw
  exact tb_m i hi hg
theorem tyE0 : ∀ k, k < 5 → ∃ ty, parseFieldDescriptor (TX0 k).2.2.1 = some ty := fun k h => ⟨_, tyX0_ok k h⟩
theorem inX1 : ∀ w ∈ u_ws RX1 TX1 3, w ∈ TB := by
  have e : u_ws RX1 TX1 3 = [468, 470, 472].filterMap (fun i : Nat => lw_tbl[i]?) := by decide +kernel
  have g : (u_ws RX1 TX1 3).all goodWord = true := by decide +kernel
  intro w hw
  have hg := List.all_eq_true.mp g w hw
  rw [e] at hw
  obtain ⟨i, -, hi⟩ := List.mem_filterMap.mp hw
  exact tb_m i hi hg
theorem tyE1 : ∀ k, k < 3 → ∃ ty, parseFieldDescriptor (TX1 k).2.2.1 = some ty := fun k h => ⟨_, tyX1_ok k h⟩
theorem inX2 : ∀ w ∈ u_ws RX2 TX2 2, w ∈ TB := by
  have e : u_ws RX2 TX2 2 = [524, 526].filterMap (fun i : Nat => lw_tbl[i]?) := by decide +kernel
  have g : (u_ws RX2 TX2 2).all goodWord = true := by decide +kernel
  intro w hw
  have hg := List.all_eq_true.mp g w hw
  rw [e] at hw
  obtain ⟨i, -, hi⟩ := List.mem_filterMap.mp hw
  exact tb_m i hi hg
theorem tyE2 : ∀ k, k < 2 → ∃ ty, parseFieldDescriptor (TX2 k).2.2.1 = some ty := fun k h => ⟨_, tyX2_ok k h⟩
theorem inX3 : ∀ w ∈ u_ws RX3 TX3 1, w ∈ TB := by
  have e : u_ws RX3 TX3 1 = [481].filterMap (fun i : Nat => lw_tbl[i]?) := by decide +kernel
  have g : (u_ws RX3 TX3 1).all goodWord = true := by decide +kernel
  intro w hw
  have hg := List.all_eq_true.mp g w hw
  rw [e] at hw
  obtain ⟨i, -, hi⟩ := List.mem_filterMap.mp hw
  exact tb_m i hi hg
theorem tyE3 : ∀ k, k < 1 → ∃ ty, parseFieldDescriptor (TX3 k).2.2.1 = some ty := fun k h => ⟨_, tyX3_ok k h⟩
theorem inX4 : ∀ w ∈ u_ws RX4 TX4 3, w ∈ TB := by
  have e : u_ws RX4 TX4 3 = [410, 412, 414].filterMap (fun i : Nat => lw_tbl[i]?) := by decide +kernel
  have g : (u_ws RX4 TX4 3).all goodWord = true := by decide +kernel
  intro w hw
  have hg := List.all_eq_true.mp g w hw
  rw [e] at hw
  obtain ⟨i, -, hi⟩ := List.mem_filterMap.mp hw
  exact tb_m i hi hg
theorem tyE4 : ∀ k, k < 3 → ∃ ty, parseFieldDescriptor (TX4 k).2.2.1 = some ty := fun k h => ⟨_, tyX4_ok k h⟩
theorem inX5 : ∀ w ∈ u_ws RX5 TX5 3, w ∈ TB := by
  have e : u_ws RX5 TX5 3 = [538, 540, 542].filterMap (fun i : Nat => lw_tbl[i]?) := by decide +kernel
  have g : (u_ws RX5 TX5 3).all goodWord = true := by decide +kernel
  intro w hw
  have hg := List.all_eq_true.mp g w hw
  rw [e] at hw
  obtain ⟨i, -, hi⟩ := List.mem_filterMap.mp hw
  exact tb_m i hi hg
theorem tyE5 : ∀ k, k < 3 → ∃ ty, parseFieldDescriptor (TX5 k).2.2.1 = some ty := fun k h => ⟨_, tyX5_ok k h⟩
theorem inX6 : ∀ w ∈ u_ws RX6 TX6 3, w ∈ TB := by
  have e : u_ws RX6 TX6 3 = [428, 430, 432].filterMap (fun i : Nat => lw_tbl[i]?) := by decide +kernel
  have g : (u_ws RX6 TX6 3).all goodWord = true := by decide +kernel
  intro w hw
  have hg := List.all_eq_true.mp g w hw
  rw [e] at hw
  obtain ⟨i, -, hi⟩ := List.mem_filterMap.mp hw
  exact tb_m i hi hg
theorem tyE6 : ∀ k, k < 3 → ∃ ty, parseFieldDescriptor (TX6 k).2.2.1 = some ty := fun k h => ⟨_, tyX6_ok k h⟩
theorem inX7 : ∀ w ∈ u_ws RX7 TX7 7, w ∈ TB := by
  have e : u_ws RX7 TX7 7 = [502, 504, 506, 508, 510, 512, 514].filterMap (fun i : Nat => lw_tbl[i]?) := by decide +kernel
  have g : (u_ws RX7 TX7 7).all goodWord = true := by decide +kernel
  intro w hw
  have hg := List.all_eq_true.mp g w hw
  rw [e] at hw
  obtain ⟨i, -, hi⟩ := List.mem_filterMap.mp hw
  exact tb_m i hi hg
theorem tyE7 : ∀ k, k < 7 → ∃ ty, parseFieldDescriptor (TX7 k).2.2.1 = some ty := fun k h => ⟨_, tyX7_ok k h⟩
theorem inX8 : ∀ w ∈ u_ws RX8 TX8 11, w ∈ TB := by
  have e : u_ws RX8 TX8 11 = [373, 375, 377, 379, 381, 383, 385, 387, 389, 391, 393].filterMap (fun i : Nat => lw_tbl[i]?) := by decide +kernel
  have g : (u_ws RX8 TX8 11).all goodWord = true := by decide +kernel
  intro w hw
  have hg := List.all_eq_true.mp g w hw
  rw [e] at hw
  obtain ⟨i, -, hi⟩ := List.mem_filterMap.mp hw
  exact tb_m i hi hg
theorem tyE8 : ∀ k, k < 11 → ∃ ty, parseFieldDescriptor (TX8 k).2.2.1 = some ty := fun k h => ⟨_, tyX8_ok k h⟩
theorem inX9 : ∀ w ∈ u_ws RX9 TX9 13, w ∈ TB := by
  have e : u_ws RX9 TX9 13 = [558, 560, 562, 564, 566, 568, 570, 572, 574, 576, 578, 580, 582].filterMap (fun i : Nat => lw_tbl[i]?) := by decide +kernel
  have g : (u_ws RX9 TX9 13).all goodWord = true := by decide +kernel
  intro w hw
  have hg := List.all_eq_true.mp g w hw
  rw [e] at hw
  obtain ⟨i, -, hi⟩ := List.mem_filterMap.mp hw
  exact tb_m i hi hg
theorem tyE9 : ∀ k, k < 13 → ∃ ty, parseFieldDescriptor (TX9 k).2.2.1 = some ty := fun k h => ⟨_, tyX9_ok k h⟩
theorem k_0 : kt 0 = (11, 13, [.some 1, .some 8, .some 15, .some 22, .some 80, .some 82, .some 85, .some 88, .some 90, .some 92, .some 94, .none, .none]) := rfl
theorem k_1 : kt 1 = (10, 11, [.some 2, .some 3, .some 4, .some 5, .some 6, .some 7, .none, .none, .none, .none, .none]) := rfl
theorem k_2 : kt 2 = (0, 9, []) := rfl
theorem k_3 : kt 3 = (0, 9, []) := rfl
theorem k_4 : kt 4 = (0, 9, []) := rfl
theorem k_5 : kt 5 = (0, 9, []) := rfl
theorem k_6 : kt 6 = (0, 9, []) := rfl
theorem k_7 : kt 7 = (0, 9, []) := rfl
theorem k_8 : kt 8 = (10, 11, [.some 9, .some 10, .some 11, .some 12, .some 13, .some 14, .none, .none, .none, .none, .none]) := rfl
theorem k_9 : kt 9 = (0, 9, []) := rfl
theorem k_10 : kt 10 = (0, 9, []) := rfl
theorem k_11 : kt 11 = (0, 9, []) := rfl
theorem k_12 : kt 12 = (0, 9, []) := rfl
theorem k_13 : kt 13 = (0, 9, []) := rfl
theorem k_14 : kt 14 = (0, 9, []) := rfl
theorem k_15 : kt 15 = (10, 11, [.some 16, .some 17, .some 18, .some 19, .some 20, .some 21, .none, .none, .none, .none, .none]) := rfl
theorem k_16 : kt 16 = (0, 9, []) := rfl
theorem k_17 : kt 17 = (0, 9, []) := rfl
theorem k_18 : kt 18 = (0, 9, []) := rfl
theorem k_19 : kt 19 = (0, 9, []) := rfl
theorem k_20 : kt 20 = (0, 9, []) := rfl
theorem k_21 : kt 21 = (0, 9, []) := rfl
theorem k_22 : kt 22 = (6, 3, [.some 23, .none, .none]) := rfl
theorem k_24 : kt 24 = (10, 11, [.some 25, .some 26, .some 27, .some 28, .some 29, .some 30, .none, .none, .none, .none, .none]) := rfl
theorem k_25 : kt 25 = (0, 9, []) := rfl
theorem k_26 : kt 26 = (0, 9, []) := rfl
theorem k_27 : kt 27 = (0, 9, []) := rfl
theorem k_28 : kt 28 = (0, 9, []) := rfl
theorem k_29 : kt 29 = (0, 9, []) := rfl
theorem k_30 : kt 30 = (0, 9, []) := rfl
theorem k_31 : kt 31 = (10, 11, [.some 32, .some 33, .some 34, .some 35, .some 36, .some 37, .none, .none, .none, .none, .none]) := rfl
theorem k_32 : kt 32 = (0, 9, []) := rfl
theorem k_33 : kt 33 = (0, 9, []) := rfl
theorem k_34 : kt 34 = (0, 9, []) := rfl
theorem k_35 : kt 35 = (0, 9, []) := rfl
theorem k_36 : kt 36 = (0, 9, []) := rfl
theorem k_37 : kt 37 = (0, 9, []) := rfl
theorem k_38 : kt 38 = (10, 11, [.some 39, .some 40, .some 41, .some 42, .some 43, .some 44, .none, .none, .none, .none, .none]) := rfl
theorem k_39 : kt 39 = (0, 9, []) := rfl
theorem k_40 : kt 40 = (0, 9, []) := rfl
theorem k_41 : kt 41 = (0, 9, []) := rfl
theorem k_42 : kt 42 = (0, 9, []) := rfl
theorem k_43 : kt 43 = (0, 9, []) := rfl
theorem k_44 : kt 44 = (0, 9, []) := rfl
theorem k_45 : kt 45 = (10, 11, [.some 46, .some 47, .some 48, .some 49, .some 50, .some 51, .none, .none, .none, .none, .none]) := rfl
theorem k_46 : kt 46 = (0, 9, []) := rfl
theorem k_47 : kt 47 = (0, 9, []) := rfl
theorem k_48 : kt 48 = (0, 9, []) := rfl
theorem k_49 : kt 49 = (0, 9, []) := rfl
theorem k_50 : kt 50 = (0, 9, []) := rfl
theorem k_51 : kt 51 = (0, 9, []) := rfl
theorem k_52 : kt 52 = (10, 11, [.some 53, .some 54, .some 55, .some 56, .some 57, .some 58, .none, .none, .none, .none, .none]) := rfl
theorem k_53 : kt 53 = (0, 9, []) := rfl
theorem k_54 : kt 54 = (0, 9, []) := rfl
theorem k_55 : kt 55 = (0, 9, []) := rfl
theorem k_56 : kt 56 = (0, 9, []) := rfl
theorem k_57 : kt 57 = (0, 9, []) := rfl
theorem k_58 : kt 58 = (0, 9, []) := rfl
theorem k_59 : kt 59 = (10, 11, [.some 60, .some 61, .some 62, .some 63, .some 64, .some 65, .none, .none, .none, .none, .none]) := rfl
theorem k_60 : kt 60 = (0, 9, []) := rfl
theorem k_61 : kt 61 = (0, 9, []) := rfl
theorem k_62 : kt 62 = (0, 9, []) := rfl
theorem k_63 : kt 63 = (0, 9, []) := rfl
theorem k_64 : kt 64 = (0, 9, []) := rfl
theorem k_65 : kt 65 = (0, 9, []) := rfl
theorem k_66 : kt 66 = (10, 11, [.some 67, .some 68, .some 69, .some 70, .some 71, .some 72, .none, .none, .none, .none, .none]) := rfl
theorem k_67 : kt 67 = (0, 9, []) := rfl
theorem k_68 : kt 68 = (0, 9, []) := rfl
theorem k_69 : kt 69 = (0, 9, []) := rfl
theorem k_70 : kt 70 = (0, 9, []) := rfl
theorem k_71 : kt 71 = (0, 9, []) := rfl
theorem k_72 : kt 72 = (0, 9, []) := rfl
theorem k_73 : kt 73 = (10, 11, [.some 74, .some 75, .some 76, .some 77, .some 78, .some 79, .none, .none, .none, .none, .none]) := rfl
theorem k_74 : kt 74 = (0, 9, []) := rfl
theorem k_75 : kt 75 = (0, 9, []) := rfl
theorem k_76 : kt 76 = (0, 9, []) := rfl
theorem k_77 : kt 77 = (0, 9, []) := rfl
theorem k_78 : kt 78 = (0, 9, []) := rfl
theorem k_79 : kt 79 = (0, 9, []) := rfl
theorem k_80 : kt 80 = (8, 3, [.some 81, .none, .none]) := rfl
theorem k_81 : kt 81 = (0, 9, []) := rfl
theorem k_82 : kt 82 = (2, 5, [.some 83, .some 84, .none, .none, .none]) := rfl
theorem k_83 : kt 83 = (0, 512, []) := rfl
theorem k_84 : kt 84 = (0, 24, []) := rfl
theorem k_85 : kt 85 = (3, 3, [.some 86, .some 87, .none]) := rfl
theorem k_86 : kt 86 = (0, 12, []) := rfl
theorem k_87 : kt 87 = (0, 12, []) := rfl
theorem k_88 : kt 88 = (5, 1, [.some 89]) := rfl
theorem k_89 : kt 89 = (0, 9, []) := rfl
theorem k_90 : kt 90 = (9, 7, [.some 91, .none, .none, .none, .none, .none, .none]) := rfl
theorem k_91 : kt 91 = (0, 70, []) := rfl
theorem k_92 : kt 92 = (4, 2, [.some 93, .none]) := rfl
theorem k_93 : kt 93 = (0, 24, []) := rfl
theorem k_94 : kt 94 = (7, 3, [.none, .none, .none]) := rfl
def isW (a : Nat) : Prop := a = 1 ∨ a = 8 ∨ a = 15 ∨ a = 24 ∨ a = 31 ∨ a = 38 ∨ a = 45 ∨ a = 52 ∨ a = 59 ∨ a = 66 ∨ a = 73
theorem kW {a : Nat} (h : isW a) : kt a = (10, 11, [some (a + 1), some (a + 2), some (a + 3), some (a + 4), some (a + 5), some (a + 6), none, none, none, none, none]) := by rcases h with rfl | rfl | rfl | rfl | rfl | rfl | rfl | rfl | rfl | rfl | rfl <;> rfl
theorem lW {a : Nat} (h : isW a) : a < 95 := by rcases h with rfl | rfl | rfl | rfl | rfl | rfl | rfl | rfl | rfl | rfl | rfl <;> decide
theorem kW1 {a : Nat} (h : isW a) : kt (a + 1) = (0, 9, []) := by rcases h with rfl | rfl | rfl | rfl | rfl | rfl | rfl | rfl | rfl | rfl | rfl <;> rfl
theorem lW1 {a : Nat} (h : isW a) : a + 1 < 95 := by rcases h with rfl | rfl | rfl | rfl | rfl | rfl | rfl | rfl | rfl | rfl | rfl <;> decide
theorem kW2 {a : Nat} (h : isW a) : kt (a + 2) = (0, 9, []) := by rcases h with rfl | rfl | rfl | rfl | rfl | rfl | rfl | rfl | rfl | rfl | rfl <;> rfl
theorem lW2 {a : Nat} (h : isW a) : a + 2 < 95 := by rcases h with rfl | rfl | rfl | rfl | rfl | rfl | rfl | rfl | rfl | rfl | rfl <;> decide
theorem kW3 {a : Nat} (h : isW a) : kt (a + 3) = (0, 9, []) := by rcases h with rfl | rfl | rfl | rfl | rfl | rfl | rfl | rfl | rfl | rfl | rfl <;> rfl
theorem lW3 {a : Nat} (h : isW a) : a + 3 < 95 := by rcases h with rfl | rfl | rfl | rfl | rfl | rfl | rfl | rfl | rfl | rfl | rfl <;> decide
theorem kW4 {a : Nat} (h : isW a) : kt (a + 4) = (0, 9, []) := by rcases h with rfl | rfl | rfl | rfl | rfl | rfl | rfl | rfl | rfl | rfl | rfl <;> rfl
theorem lW4 {a : Nat} (h : isW a) : a + 4 < 95 := by rcases h with rfl | rfl | rfl | rfl | rfl | rfl | rfl | rfl | rfl | rfl | rfl <;> decide
theorem kW5 {a : Nat} (h : isW a) : kt (a + 5) = (0, 9, []) := by rcases h with rfl | rfl | rfl | rfl | rfl | rfl | rfl | rfl | rfl | rfl | rfl <;> rfl
theorem lW5 {a : Nat} (h : isW a) : a + 5 < 95 := by rcases h with rfl | rfl | rfl | rfl | rfl | rfl | rfl | rfl | rfl | rfl | rfl <;> decide
theorem kW6 {a : Nat} (h : isW a) : kt (a + 6) = (0, 9, []) := by rcases h with rfl | rfl | rfl | rfl | rfl | rfl | rfl | rfl | rfl | rfl | rfl <;> rfl
theorem lW6 {a : Nat} (h : isW a) : a + 6 < 95 := by rcases h with rfl | rfl | rfl | rfl | rfl | rfl | rfl | rfl | rfl | rfl | rfl <;> decide
theorem rW {a j : Nat} (h : isW a) (h6 : 6 ≤ j) (h11 : j < 11) : isRef a j = false := by
  rcases (show j = 6 ∨ j = 7 ∨ j = 8 ∨ j = 9 ∨ j = 10 by omega) with rfl | rfl | rfl | rfl | rfl <;> (rcases h with rfl | rfl | rfl | rfl | rfl | rfl | rfl | rfl | rfl | rfl | rfl <;> rfl)
theorem isW_1 : isW 1 := by unfold isW; decide
theorem isW_8 : isW 8 := by unfold isW; decide
theorem isW_15 : isW 15 := by unfold isW; decide
theorem isW_24 : isW 24 := by unfold isW; decide
theorem isW_31 : isW 31 := by unfold isW; decide
theorem isW_38 : isW 38 := by unfold isW; decide
theorem isW_45 : isW 45 := by unfold isW; decide
theorem isW_52 : isW 52 := by unfold isW; decide
theorem isW_59 : isW 59 := by unfold isW; decide
theorem isW_66 : isW 66 := by unfold isW; decide
theorem isW_73 : isW 73 := by unfold isW; decide
theorem isW_past {i : Int32} (h : vp_in i 8) : isW (24 + 7 * i.toNatClampNeg) := by
  have hlt : i.toNatClampNeg < 8 := Nat.not_le.mp fun q => h (Or.inr q)
  unfold isW
  omega
theorem i32_ne {x c : Int32} (h : ¬ x = c) : x.toInt ≠ c.toInt := fun e => h (Int32.toInt_inj.mp e)
theorem rmN_ok {fr lo fr1 lo1 mL : Nat} (h1 : fr1 + 1 ≤ fr) (h2 : 8 + (mL + 11) + lo1 ≤ lo) : RmOk (rmN fr lo) fr1 lo1 mL 0 0 := ⟨⟨h1, h2⟩, Nat.le_refl _, Nat.le_refl _⟩
theorem qg {qt : List (Nat × Cond)} (h : qt.all (fun q => decide (lw_tbl[q.1]? = some q.2) && goodWord q.2) = true) (i : Nat) {n : Nat} {w : Cond} (hi : qt[i]? = some (n, w)) : w ∈ TB := by
  have h1 := List.all_eq_true.mp h _ (List.mem_of_getElem? hi)
  simp only [Bool.and_eq_true, decide_eq_true_eq] at h1
  exact tb_m n h1.1 h1.2
def qt0 : List (Nat × Cond) := [(442, Cond.fieldLink RX0 18 "FortressWatch$Chooser" "best" "I"), (444, Cond.fieldLink RX0 22 "FortressWatch$Chooser" "ways" "I"), (446, Cond.fieldLink RX0 25 "FortressWatch$Chooser" "inEach" "I"), (425, Cond.fieldLink RX0 28 "FortressWatch$Sights" "posts" "I"), (170, Cond.code yX0_fillSets cX0_fillSets 6 none), (166, Cond.methodLink RX0 33 yX0_fillSets), (168, Cond.instanceMethod yX0_fillSets), (8, Cond.selects RX0 yX0_fillSets yX0_fillSets), (33, Cond.initialized RX0), (440, Cond.fieldLink RX0 9 "FortressWatch$Chooser" "seenBySet" "[I"), (174, Cond.code yX6_of cX6_of 2 (some .int)), (171, Cond.methodLink RX0 44 yX6_of), (172, Cond.instanceMethod yX6_of), (173, Cond.selects RX6 yX6_of yX6_of), (32, Cond.initialized RX6), (423, Cond.fieldLink RX6 9 "FortressWatch$Sights" "row" "[I"), (177, Cond.code yJ6_bitCount_0f7a4 cJ6_bitCount_0f7a4 1 (some .int)), (175, Cond.methodLink RX0 37 yJ6_bitCount_0f7a4), (176, Cond.static yJ6_bitCount_0f7a4), (40, Cond.initialized RJ6), (178, Cond.constant RJ6 265 (1431655765)), (179, Cond.constant RJ6 266 (858993459)), (180, Cond.constant RJ6 267 (252645135)), (181, Cond.constant RX0 43 (16777215)), (441, Cond.fieldLink RX0 15 "FortressWatch$Chooser" "seers" "[I"), (1019, Cond.code yX0_search cX0_search 9 (some .int)), (1017, Cond.methodLink RX0 50 yX0_search), (1018, Cond.static yX0_search), (1025, Cond.code yX0_fewestSeers cX0_fewestSeers 6 (some .int)), (1023, Cond.methodLink RX0 58 yX0_fewestSeers)]
set_option maxRecDepth 20000 in
theorem Qt0 : qt0.all (fun q => decide (lw_tbl[q.1]? = some q.2) && goodWord q.2) = true := by decide +kernel
theorem w_442 : Cond.fieldLink RX0 18 "FortressWatch$Chooser" "best" "I" ∈ TB := qg Qt0 0 rfl
theorem w_444 : Cond.fieldLink RX0 22 "FortressWatch$Chooser" "ways" "I" ∈ TB := qg Qt0 1 rfl
theorem w_446 : Cond.fieldLink RX0 25 "FortressWatch$Chooser" "inEach" "I" ∈ TB := qg Qt0 2 rfl
theorem w_425 : Cond.fieldLink RX0 28 "FortressWatch$Sights" "posts" "I" ∈ TB := qg Qt0 3 rfl
theorem w_170 : Cond.code yX0_fillSets cX0_fillSets 6 none ∈ TB := qg Qt0 4 rfl
theorem w_166 : Cond.methodLink RX0 33 yX0_fillSets ∈ TB := qg Qt0 5 rfl
theorem w_168 : Cond.instanceMethod yX0_fillSets ∈ TB := qg Qt0 6 rfl
theorem w_8 : Cond.selects RX0 yX0_fillSets yX0_fillSets ∈ TB := qg Qt0 7 rfl
theorem w_33 : Cond.initialized RX0 ∈ TB := qg Qt0 8 rfl
theorem w_440 : Cond.fieldLink RX0 9 "FortressWatch$Chooser" "seenBySet" "[I" ∈ TB := qg Qt0 9 rfl
theorem w_174 : Cond.code yX6_of cX6_of 2 (some .int) ∈ TB := qg Qt0 10 rfl
theorem w_171 : Cond.methodLink RX0 44 yX6_of ∈ TB := qg Qt0 11 rfl
theorem w_172 : Cond.instanceMethod yX6_of ∈ TB := qg Qt0 12 rfl
theorem w_173 : Cond.selects RX6 yX6_of yX6_of ∈ TB := qg Qt0 13 rfl
theorem w_32 : Cond.initialized RX6 ∈ TB := qg Qt0 14 rfl
theorem w_423 : Cond.fieldLink RX6 9 "FortressWatch$Sights" "row" "[I" ∈ TB := qg Qt0 15 rfl
theorem w_177 : Cond.code yJ6_bitCount_0f7a4 cJ6_bitCount_0f7a4 1 (some .int) ∈ TB := qg Qt0 16 rfl
theorem w_175 : Cond.methodLink RX0 37 yJ6_bitCount_0f7a4 ∈ TB := qg Qt0 17 rfl
theorem w_176 : Cond.static yJ6_bitCount_0f7a4 ∈ TB := qg Qt0 18 rfl
theorem w_40 : Cond.initialized RJ6 ∈ TB := qg Qt0 19 rfl
theorem w_178 : Cond.constant RJ6 265 (1431655765) ∈ TB := qg Qt0 20 rfl
theorem w_179 : Cond.constant RJ6 266 (858993459) ∈ TB := qg Qt0 21 rfl
theorem w_180 : Cond.constant RJ6 267 (252645135) ∈ TB := qg Qt0 22 rfl
theorem w_181 : Cond.constant RX0 43 (16777215) ∈ TB := qg Qt0 23 rfl
theorem w_441 : Cond.fieldLink RX0 15 "FortressWatch$Chooser" "seers" "[I" ∈ TB := qg Qt0 24 rfl
theorem w_1019 : Cond.code yX0_search cX0_search 9 (some .int) ∈ TB := qg Qt0 25 rfl
theorem w_1017 : Cond.methodLink RX0 50 yX0_search ∈ TB := qg Qt0 26 rfl
theorem w_1018 : Cond.static yX0_search ∈ TB := qg Qt0 27 rfl
theorem w_1025 : Cond.code yX0_fewestSeers cX0_fewestSeers 6 (some .int) ∈ TB := qg Qt0 28 rfl
theorem w_1023 : Cond.methodLink RX0 58 yX0_fewestSeers ∈ TB := qg Qt0 29 rfl
def qt1 : List (Nat × Cond) := [(1024, Cond.static yX0_fewestSeers), (192, Cond.code yX9_isIn cX9_isIn 2 (some .boolean)), (191, Cond.static yX9_isIn), (29, Cond.initialized RX9), (1022, Cond.code yX0_better cX0_better 3 (some .int)), (1020, Cond.methodLink RX0 54 yX0_better), (1021, Cond.static yX0_better), (987, Cond.code yX6_seersOf cX6_seersOf 4 (some .int)), (1016, Cond.methodLink RX0 47 yX6_seersOf), (985, Cond.instanceMethod yX6_seersOf), (986, Cond.selects RX6 yX6_seersOf yX6_seersOf), (466, Cond.fieldLink RX1 18 "FortressWatch$Gaps" "many" "I"), (230, Cond.code yX9_turned cX9_turned 2 (some .int)), (229, Cond.static yX9_turned), (210, Cond.constant RX9 206 (16777215)), (291, Cond.code yX1_openFrom cX1_openFrom 4 (some .int)), (289, Cond.methodLink RX1 34 yX1_openFrom), (290, Cond.static yX1_openFrom), (34, Cond.initialized RX1), (286, Cond.code yX1_add cX1_add 3 none), (282, Cond.methodLink RX1 22 yX1_add), (284, Cond.instanceMethod yX1_add), (14, Cond.selects RX1 yX1_add yX1_add), (464, Cond.fieldLink RX1 9 "FortressWatch$Gaps" "first" "[I"), (465, Cond.fieldLink RX1 15 "FortressWatch$Gaps" "length" "[I"), (307, Cond.code yX1_isGap cX1_isGap 2 (some .boolean)), (304, Cond.methodLink RX1 37 yX1_isGap), (305, Cond.instanceMethod yX1_isGap), (306, Cond.selects RX1 yX1_isGap yX1_isGap), (303, Cond.code yX1_lengthOf cX1_lengthOf 2 (some .int))]
set_option maxRecDepth 20000 in
theorem Qt1 : qt1.all (fun q => decide (lw_tbl[q.1]? = some q.2) && goodWord q.2) = true := by decide +kernel
theorem w_1024 : Cond.static yX0_fewestSeers ∈ TB := qg Qt1 0 rfl
theorem w_192 : Cond.code yX9_isIn cX9_isIn 2 (some .boolean) ∈ TB := qg Qt1 1 rfl
theorem w_191 : Cond.static yX9_isIn ∈ TB := qg Qt1 2 rfl
theorem w_29 : Cond.initialized RX9 ∈ TB := qg Qt1 3 rfl
theorem w_1022 : Cond.code yX0_better cX0_better 3 (some .int) ∈ TB := qg Qt1 4 rfl
theorem w_1020 : Cond.methodLink RX0 54 yX0_better ∈ TB := qg Qt1 5 rfl
theorem w_1021 : Cond.static yX0_better ∈ TB := qg Qt1 6 rfl
theorem w_987 : Cond.code yX6_seersOf cX6_seersOf 4 (some .int) ∈ TB := qg Qt1 7 rfl
theorem w_1016 : Cond.methodLink RX0 47 yX6_seersOf ∈ TB := qg Qt1 8 rfl
theorem w_985 : Cond.instanceMethod yX6_seersOf ∈ TB := qg Qt1 9 rfl
theorem w_986 : Cond.selects RX6 yX6_seersOf yX6_seersOf ∈ TB := qg Qt1 10 rfl
theorem w_466 : Cond.fieldLink RX1 18 "FortressWatch$Gaps" "many" "I" ∈ TB := qg Qt1 11 rfl
theorem w_230 : Cond.code yX9_turned cX9_turned 2 (some .int) ∈ TB := qg Qt1 12 rfl
theorem w_229 : Cond.static yX9_turned ∈ TB := qg Qt1 13 rfl
theorem w_210 : Cond.constant RX9 206 (16777215) ∈ TB := qg Qt1 14 rfl
theorem w_291 : Cond.code yX1_openFrom cX1_openFrom 4 (some .int) ∈ TB := qg Qt1 15 rfl
theorem w_289 : Cond.methodLink RX1 34 yX1_openFrom ∈ TB := qg Qt1 16 rfl
theorem w_290 : Cond.static yX1_openFrom ∈ TB := qg Qt1 17 rfl
theorem w_34 : Cond.initialized RX1 ∈ TB := qg Qt1 18 rfl
theorem w_286 : Cond.code yX1_add cX1_add 3 none ∈ TB := qg Qt1 19 rfl
theorem w_282 : Cond.methodLink RX1 22 yX1_add ∈ TB := qg Qt1 20 rfl
theorem w_284 : Cond.instanceMethod yX1_add ∈ TB := qg Qt1 21 rfl
theorem w_14 : Cond.selects RX1 yX1_add yX1_add ∈ TB := qg Qt1 22 rfl
theorem w_464 : Cond.fieldLink RX1 9 "FortressWatch$Gaps" "first" "[I" ∈ TB := qg Qt1 23 rfl
theorem w_465 : Cond.fieldLink RX1 15 "FortressWatch$Gaps" "length" "[I" ∈ TB := qg Qt1 24 rfl
theorem w_307 : Cond.code yX1_isGap cX1_isGap 2 (some .boolean) ∈ TB := qg Qt1 25 rfl
theorem w_304 : Cond.methodLink RX1 37 yX1_isGap ∈ TB := qg Qt1 26 rfl
theorem w_305 : Cond.instanceMethod yX1_isGap ∈ TB := qg Qt1 27 rfl
theorem w_306 : Cond.selects RX1 yX1_isGap yX1_isGap ∈ TB := qg Qt1 28 rfl
theorem w_303 : Cond.code yX1_lengthOf cX1_lengthOf 2 (some .int) ∈ TB := qg Qt1 29 rfl
def qt2 : List (Nat × Cond) := [(300, Cond.methodLink RX1 41 yX1_lengthOf), (301, Cond.instanceMethod yX1_lengthOf), (302, Cond.selects RX1 yX1_lengthOf yX1_lengthOf), (308, Cond.methodLink RX1 45 Lib.Math.max.name), (156, Cond.static Lib.Math.max.name), (39, Cond.initialized RJ9), (157, Cond.code Lib.Math.max.name Lib.Math.max.code 2 (some .int)), (480, Cond.fieldLink RX3 9 "FortressWatch$Order" "key" "[I"), (265, Cond.code yX3_placeOf cX3_placeOf 5 (some .int)), (261, Cond.methodLink RX3 15 yX3_placeOf), (263, Cond.instanceMethod yX3_placeOf), (12, Cond.selects RX3 yX3_placeOf yX3_placeOf), (35, Cond.initialized RX3), (406, Cond.fieldLink RX4 11 "FortressWatch$Past" "walls" "[LFortressWatch$Wall;"), (407, Cond.fieldLink RX4 18 "FortressWatch$Past" "top" "I"), (58, Cond.code yX8_copyFrom cX8_copyFrom 3 none), (100, Cond.methodLink RX4 22 yX8_copyFrom), (56, Cond.instanceMethod yX8_copyFrom), (57, Cond.selects RX8 yX8_copyFrom yX8_copyFrom), (30, Cond.initialized RX8), (366, Cond.fieldLink RX8 38 "FortressWatch$Wall" "posts" "I"), (368, Cond.fieldLink RX8 42 "FortressWatch$Wall" "hour" "I"), (370, Cond.fieldLink RX8 45 "FortressWatch$Wall" "built" "I"), (371, Cond.fieldLink RX8 48 "FortressWatch$Wall" "torn" "I"), (372, Cond.fieldLink RX8 51 "FortressWatch$Wall" "timesManned" "I"), (63, Cond.code yX8_copyPlace cX8_copyPlace 4 none), (59, Cond.methodLink RX8 34 yX8_copyPlace), (61, Cond.instanceMethod yX8_copyPlace), (0, Cond.selects RX8 yX8_copyPlace yX8_copyPlace), (353, Cond.fieldLink RX8 9 "FortressWatch$Wall" "stone" "[I")]
set_option maxRecDepth 20000 in
theorem Qt2 : qt2.all (fun q => decide (lw_tbl[q.1]? = some q.2) && goodWord q.2) = true := by decide +kernel
theorem w_300 : Cond.methodLink RX1 41 yX1_lengthOf ∈ TB := qg Qt2 0 rfl
theorem w_301 : Cond.instanceMethod yX1_lengthOf ∈ TB := qg Qt2 1 rfl
theorem w_302 : Cond.selects RX1 yX1_lengthOf yX1_lengthOf ∈ TB := qg Qt2 2 rfl
theorem w_308 : Cond.methodLink RX1 45 Lib.Math.max.name ∈ TB := qg Qt2 3 rfl
theorem w_156 : Cond.static Lib.Math.max.name ∈ TB := qg Qt2 4 rfl
theorem w_39 : Cond.initialized RJ9 ∈ TB := qg Qt2 5 rfl
theorem w_157 : Cond.code Lib.Math.max.name Lib.Math.max.code 2 (some .int) ∈ TB := qg Qt2 6 rfl
theorem w_480 : Cond.fieldLink RX3 9 "FortressWatch$Order" "key" "[I" ∈ TB := qg Qt2 7 rfl
theorem w_265 : Cond.code yX3_placeOf cX3_placeOf 5 (some .int) ∈ TB := qg Qt2 8 rfl
theorem w_261 : Cond.methodLink RX3 15 yX3_placeOf ∈ TB := qg Qt2 9 rfl
theorem w_263 : Cond.instanceMethod yX3_placeOf ∈ TB := qg Qt2 10 rfl
theorem w_12 : Cond.selects RX3 yX3_placeOf yX3_placeOf ∈ TB := qg Qt2 11 rfl
theorem w_35 : Cond.initialized RX3 ∈ TB := qg Qt2 12 rfl
theorem w_406 : Cond.fieldLink RX4 11 "FortressWatch$Past" "walls" "[LFortressWatch$Wall;" ∈ TB := qg Qt2 13 rfl
theorem w_407 : Cond.fieldLink RX4 18 "FortressWatch$Past" "top" "I" ∈ TB := qg Qt2 14 rfl
theorem w_58 : Cond.code yX8_copyFrom cX8_copyFrom 3 none ∈ TB := qg Qt2 15 rfl
theorem w_100 : Cond.methodLink RX4 22 yX8_copyFrom ∈ TB := qg Qt2 16 rfl
theorem w_56 : Cond.instanceMethod yX8_copyFrom ∈ TB := qg Qt2 17 rfl
theorem w_57 : Cond.selects RX8 yX8_copyFrom yX8_copyFrom ∈ TB := qg Qt2 18 rfl
theorem w_30 : Cond.initialized RX8 ∈ TB := qg Qt2 19 rfl
theorem w_366 : Cond.fieldLink RX8 38 "FortressWatch$Wall" "posts" "I" ∈ TB := qg Qt2 20 rfl
theorem w_368 : Cond.fieldLink RX8 42 "FortressWatch$Wall" "hour" "I" ∈ TB := qg Qt2 21 rfl
theorem w_370 : Cond.fieldLink RX8 45 "FortressWatch$Wall" "built" "I" ∈ TB := qg Qt2 22 rfl
theorem w_371 : Cond.fieldLink RX8 48 "FortressWatch$Wall" "torn" "I" ∈ TB := qg Qt2 23 rfl
theorem w_372 : Cond.fieldLink RX8 51 "FortressWatch$Wall" "timesManned" "I" ∈ TB := qg Qt2 24 rfl
theorem w_63 : Cond.code yX8_copyPlace cX8_copyPlace 4 none ∈ TB := qg Qt2 25 rfl
theorem w_59 : Cond.methodLink RX8 34 yX8_copyPlace ∈ TB := qg Qt2 26 rfl
theorem w_61 : Cond.instanceMethod yX8_copyPlace ∈ TB := qg Qt2 27 rfl
theorem w_0 : Cond.selects RX8 yX8_copyPlace yX8_copyPlace ∈ TB := qg Qt2 28 rfl
theorem w_353 : Cond.fieldLink RX8 9 "FortressWatch$Wall" "stone" "[I" ∈ TB := qg Qt2 29 rfl
def qt3 : List (Nat × Cond) := [(354, Cond.fieldLink RX8 15 "FortressWatch$Wall" "left" "[I"), (356, Cond.fieldLink RX8 18 "FortressWatch$Wall" "right" "[I"), (358, Cond.fieldLink RX8 21 "FortressWatch$Wall" "blindFrom" "[I"), (360, Cond.fieldLink RX8 24 "FortressWatch$Wall" "blindMany" "[I"), (362, Cond.fieldLink RX8 27 "FortressWatch$Wall" "manned" "[I"), (408, Cond.fieldLink RX4 26 "FortressWatch$Past" "many" "I"), (101, Cond.methodLink RX4 29 Lib.Math.min.name), (102, Cond.static Lib.Math.min.name), (103, Cond.code Lib.Math.min.name Lib.Math.min.code 2 (some .int)), (535, Cond.fieldLink RX5 9 "FortressWatch$Refused" "reason" "I"), (536, Cond.fieldLink RX5 15 "FortressWatch$Refused" "detail" "I"), (537, Cond.fieldLink RX5 18 "FortressWatch$Refused" "command" "I"), (365, Cond.fieldLink RX6 15 "FortressWatch$Wall" "posts" "I"), (424, Cond.fieldLink RX6 21 "FortressWatch$Sights" "posts" "I"), (426, Cond.fieldLink RX6 22 "FortressWatch$Sights" "manned" "I"), (150, Cond.code yX8_sightOf cX8_sightOf 8 (some .int)), (147, Cond.methodLink RX6 25 yX8_sightOf), (148, Cond.instanceMethod yX8_sightOf), (149, Cond.selects RX8 yX8_sightOf yX8_sightOf), (115, Cond.code yX8_isPost cX8_isPost 2 (some .boolean)), (151, Cond.methodLink RX8 58 yX8_isPost), (113, Cond.instanceMethod yX8_isPost), (114, Cond.selects RX8 yX8_isPost yX8_isPost), (154, Cond.code yX8_lostByLight cX8_lostByLight 1 (some .int)), (152, Cond.methodLink RX8 62 yX8_lostByLight), (153, Cond.static yX8_lostByLight), (155, Cond.methodLink RX8 65 Lib.Math.max.name), (160, Cond.code yX9_stretch cX9_stretch 4 (some .int)), (159, Cond.static yX9_stretch), (161, Cond.constantLong RX9 361 (16777215))]
set_option maxRecDepth 20000 in
theorem Qt3 : qt3.all (fun q => decide (lw_tbl[q.1]? = some q.2) && goodWord q.2) = true := by decide +kernel
theorem w_354 : Cond.fieldLink RX8 15 "FortressWatch$Wall" "left" "[I" ∈ TB := qg Qt3 0 rfl
theorem w_356 : Cond.fieldLink RX8 18 "FortressWatch$Wall" "right" "[I" ∈ TB := qg Qt3 1 rfl
theorem w_358 : Cond.fieldLink RX8 21 "FortressWatch$Wall" "blindFrom" "[I" ∈ TB := qg Qt3 2 rfl
theorem w_360 : Cond.fieldLink RX8 24 "FortressWatch$Wall" "blindMany" "[I" ∈ TB := qg Qt3 3 rfl
theorem w_362 : Cond.fieldLink RX8 27 "FortressWatch$Wall" "manned" "[I" ∈ TB := qg Qt3 4 rfl
theorem w_408 : Cond.fieldLink RX4 26 "FortressWatch$Past" "many" "I" ∈ TB := qg Qt3 5 rfl
theorem w_101 : Cond.methodLink RX4 29 Lib.Math.min.name ∈ TB := qg Qt3 6 rfl
theorem w_102 : Cond.static Lib.Math.min.name ∈ TB := qg Qt3 7 rfl
theorem w_103 : Cond.code Lib.Math.min.name Lib.Math.min.code 2 (some .int) ∈ TB := qg Qt3 8 rfl
theorem w_535 : Cond.fieldLink RX5 9 "FortressWatch$Refused" "reason" "I" ∈ TB := qg Qt3 9 rfl
theorem w_536 : Cond.fieldLink RX5 15 "FortressWatch$Refused" "detail" "I" ∈ TB := qg Qt3 10 rfl
theorem w_537 : Cond.fieldLink RX5 18 "FortressWatch$Refused" "command" "I" ∈ TB := qg Qt3 11 rfl
theorem w_365 : Cond.fieldLink RX6 15 "FortressWatch$Wall" "posts" "I" ∈ TB := qg Qt3 12 rfl
theorem w_424 : Cond.fieldLink RX6 21 "FortressWatch$Sights" "posts" "I" ∈ TB := qg Qt3 13 rfl
theorem w_426 : Cond.fieldLink RX6 22 "FortressWatch$Sights" "manned" "I" ∈ TB := qg Qt3 14 rfl
theorem w_150 : Cond.code yX8_sightOf cX8_sightOf 8 (some .int) ∈ TB := qg Qt3 15 rfl
theorem w_147 : Cond.methodLink RX6 25 yX8_sightOf ∈ TB := qg Qt3 16 rfl
theorem w_148 : Cond.instanceMethod yX8_sightOf ∈ TB := qg Qt3 17 rfl
theorem w_149 : Cond.selects RX8 yX8_sightOf yX8_sightOf ∈ TB := qg Qt3 18 rfl
theorem w_115 : Cond.code yX8_isPost cX8_isPost 2 (some .boolean) ∈ TB := qg Qt3 19 rfl
theorem w_151 : Cond.methodLink RX8 58 yX8_isPost ∈ TB := qg Qt3 20 rfl
theorem w_113 : Cond.instanceMethod yX8_isPost ∈ TB := qg Qt3 21 rfl
theorem w_114 : Cond.selects RX8 yX8_isPost yX8_isPost ∈ TB := qg Qt3 22 rfl
theorem w_154 : Cond.code yX8_lostByLight cX8_lostByLight 1 (some .int) ∈ TB := qg Qt3 23 rfl
theorem w_152 : Cond.methodLink RX8 62 yX8_lostByLight ∈ TB := qg Qt3 24 rfl
theorem w_153 : Cond.static yX8_lostByLight ∈ TB := qg Qt3 25 rfl
theorem w_155 : Cond.methodLink RX8 65 Lib.Math.max.name ∈ TB := qg Qt3 26 rfl
theorem w_160 : Cond.code yX9_stretch cX9_stretch 4 (some .int) ∈ TB := qg Qt3 27 rfl
theorem w_159 : Cond.static yX9_stretch ∈ TB := qg Qt3 28 rfl
theorem w_161 : Cond.constantLong RX9 361 (16777215) ∈ TB := qg Qt3 29 rfl
def qt4 : List (Nat × Cond) := [(363, Cond.fieldLink RX6 29 "FortressWatch$Wall" "manned" "[I"), (243, Cond.methodLink RX6 31 yX6_of), (215, Cond.methodLink RX6 35 yJ6_bitCount_0f7a4), (189, Cond.code yX6_seenBySet cX6_seenBySet 4 (some .int)), (252, Cond.methodLink RX6 40 yX6_seenBySet), (187, Cond.instanceMethod yX6_seenBySet), (188, Cond.selects RX6 yX6_seenBySet yX6_seenBySet), (492, Cond.fieldLink RX7 15 "FortressWatch$Text" "length" "I"), (490, Cond.fieldLink RX7 9 "FortressWatch$Text" "codes" "[I"), (491, Cond.fieldLink RX7 19 "FortressWatch$Text" "at" "I"), (915, Cond.code yX7_rewind cX7_rewind 1 none), (912, Cond.methodLink RX7 22 yX7_rewind), (913, Cond.instanceMethod yX7_rewind), (914, Cond.selects RX7 yX7_rewind yX7_rewind), (36, Cond.initialized RX7), (919, Cond.code yX7_takeCommand cX7_takeCommand 1 (some .boolean)), (916, Cond.methodLink RX7 25 yX7_takeCommand), (917, Cond.instanceMethod yX7_takeCommand), (918, Cond.selects RX7 yX7_takeCommand yX7_takeCommand), (923, Cond.code yX7_codeHere cX7_codeHere 1 (some .int)), (920, Cond.methodLink RX7 33 yX7_codeHere), (922, Cond.instanceMethod yX7_codeHere), (21, Cond.selects RX7 yX7_codeHere yX7_codeHere), (494, Cond.fieldLink RX7 37 "FortressWatch$Text" "letter" "I"), (927, Cond.code yX7_skip cX7_skip 2 (some .boolean)), (924, Cond.methodLink RX7 29 yX7_skip), (925, Cond.instanceMethod yX7_skip), (926, Cond.selects RX7 yX7_skip yX7_skip), (931, Cond.code yX7_takeFirst cX7_takeFirst 2 (some .boolean)), (928, Cond.methodLink RX7 40 yX7_takeFirst)]
set_option maxRecDepth 20000 in
theorem Qt4 : qt4.all (fun q => decide (lw_tbl[q.1]? = some q.2) && goodWord q.2) = true := by decide +kernel
theorem w_363 : Cond.fieldLink RX6 29 "FortressWatch$Wall" "manned" "[I" ∈ TB := qg Qt4 0 rfl
theorem w_243 : Cond.methodLink RX6 31 yX6_of ∈ TB := qg Qt4 1 rfl
theorem w_215 : Cond.methodLink RX6 35 yJ6_bitCount_0f7a4 ∈ TB := qg Qt4 2 rfl
theorem w_189 : Cond.code yX6_seenBySet cX6_seenBySet 4 (some .int) ∈ TB := qg Qt4 3 rfl
theorem w_252 : Cond.methodLink RX6 40 yX6_seenBySet ∈ TB := qg Qt4 4 rfl
theorem w_187 : Cond.instanceMethod yX6_seenBySet ∈ TB := qg Qt4 5 rfl
theorem w_188 : Cond.selects RX6 yX6_seenBySet yX6_seenBySet ∈ TB := qg Qt4 6 rfl
theorem w_492 : Cond.fieldLink RX7 15 "FortressWatch$Text" "length" "I" ∈ TB := qg Qt4 7 rfl
theorem w_490 : Cond.fieldLink RX7 9 "FortressWatch$Text" "codes" "[I" ∈ TB := qg Qt4 8 rfl
theorem w_491 : Cond.fieldLink RX7 19 "FortressWatch$Text" "at" "I" ∈ TB := qg Qt4 9 rfl
theorem w_915 : Cond.code yX7_rewind cX7_rewind 1 none ∈ TB := qg Qt4 10 rfl
theorem w_912 : Cond.methodLink RX7 22 yX7_rewind ∈ TB := qg Qt4 11 rfl
theorem w_913 : Cond.instanceMethod yX7_rewind ∈ TB := qg Qt4 12 rfl
theorem w_914 : Cond.selects RX7 yX7_rewind yX7_rewind ∈ TB := qg Qt4 13 rfl
theorem w_36 : Cond.initialized RX7 ∈ TB := qg Qt4 14 rfl
theorem w_919 : Cond.code yX7_takeCommand cX7_takeCommand 1 (some .boolean) ∈ TB := qg Qt4 15 rfl
theorem w_916 : Cond.methodLink RX7 25 yX7_takeCommand ∈ TB := qg Qt4 16 rfl
theorem w_917 : Cond.instanceMethod yX7_takeCommand ∈ TB := qg Qt4 17 rfl
theorem w_918 : Cond.selects RX7 yX7_takeCommand yX7_takeCommand ∈ TB := qg Qt4 18 rfl
theorem w_923 : Cond.code yX7_codeHere cX7_codeHere 1 (some .int) ∈ TB := qg Qt4 19 rfl
theorem w_920 : Cond.methodLink RX7 33 yX7_codeHere ∈ TB := qg Qt4 20 rfl
theorem w_922 : Cond.instanceMethod yX7_codeHere ∈ TB := qg Qt4 21 rfl
theorem w_21 : Cond.selects RX7 yX7_codeHere yX7_codeHere ∈ TB := qg Qt4 22 rfl
theorem w_494 : Cond.fieldLink RX7 37 "FortressWatch$Text" "letter" "I" ∈ TB := qg Qt4 23 rfl
theorem w_927 : Cond.code yX7_skip cX7_skip 2 (some .boolean) ∈ TB := qg Qt4 24 rfl
theorem w_924 : Cond.methodLink RX7 29 yX7_skip ∈ TB := qg Qt4 25 rfl
theorem w_925 : Cond.instanceMethod yX7_skip ∈ TB := qg Qt4 26 rfl
theorem w_926 : Cond.selects RX7 yX7_skip yX7_skip ∈ TB := qg Qt4 27 rfl
theorem w_931 : Cond.code yX7_takeFirst cX7_takeFirst 2 (some .boolean) ∈ TB := qg Qt4 28 rfl
theorem w_928 : Cond.methodLink RX7 40 yX7_takeFirst ∈ TB := qg Qt4 29 rfl
def qt5 : List (Nat × Cond) := [(930, Cond.instanceMethod yX7_takeFirst), (22, Cond.selects RX7 yX7_takeFirst yX7_takeFirst), (935, Cond.code yX7_takeNumber cX7_takeNumber 5 (some .int)), (932, Cond.methodLink RX7 49 yX7_takeNumber), (934, Cond.instanceMethod yX7_takeNumber), (23, Cond.selects RX7 yX7_takeNumber yX7_takeNumber), (496, Cond.fieldLink RX7 53 "FortressWatch$Text" "first" "I"), (939, Cond.code yX7_takeSecond cX7_takeSecond 2 (some .boolean)), (936, Cond.methodLink RX7 43 yX7_takeSecond), (938, Cond.instanceMethod yX7_takeSecond), (24, Cond.selects RX7 yX7_takeSecond yX7_takeSecond), (498, Cond.fieldLink RX7 56 "FortressWatch$Text" "second" "I"), (943, Cond.code yX7_takeThird cX7_takeThird 2 (some .boolean)), (940, Cond.methodLink RX7 46 yX7_takeThird), (942, Cond.instanceMethod yX7_takeThird), (25, Cond.selects RX7 yX7_takeThird yX7_takeThird), (500, Cond.fieldLink RX7 59 "FortressWatch$Text" "third" "I"), (78, Cond.code yX8_postOn cX8_postOn 3 (some .int)), (91, Cond.methodLink RX8 54 yX8_postOn), (76, Cond.instanceMethod yX8_postOn), (77, Cond.selects RX8 yX8_postOn yX8_postOn), (123, Cond.code yX8_empty cX8_empty 2 none), (120, Cond.methodLink RX8 30 yX8_empty), (122, Cond.instanceMethod yX8_empty), (5, Cond.selects RX8 yX8_empty yX8_empty), (546, Cond.fieldLink RX9 16 "FortressWatch" "before" "LFortressWatch$Wall;"), (545, Cond.fieldLink RX9 10 "FortressWatch" "wall" "LFortressWatch$Wall;"), (55, Cond.methodLink RX9 86 yX8_copyFrom), (68, Cond.code yX9_buildPost cX9_buildPost 5 (some .int)), (64, Cond.methodLink RX9 90 yX9_buildPost)]
set_option maxRecDepth 20000 in
theorem Qt5 : qt5.all (fun q => decide (lw_tbl[q.1]? = some q.2) && goodWord q.2) = true := by decide +kernel
theorem w_930 : Cond.instanceMethod yX7_takeFirst ∈ TB := qg Qt5 0 rfl
theorem w_22 : Cond.selects RX7 yX7_takeFirst yX7_takeFirst ∈ TB := qg Qt5 1 rfl
theorem w_935 : Cond.code yX7_takeNumber cX7_takeNumber 5 (some .int) ∈ TB := qg Qt5 2 rfl
theorem w_932 : Cond.methodLink RX7 49 yX7_takeNumber ∈ TB := qg Qt5 3 rfl
theorem w_934 : Cond.instanceMethod yX7_takeNumber ∈ TB := qg Qt5 4 rfl
theorem w_23 : Cond.selects RX7 yX7_takeNumber yX7_takeNumber ∈ TB := qg Qt5 5 rfl
theorem w_496 : Cond.fieldLink RX7 53 "FortressWatch$Text" "first" "I" ∈ TB := qg Qt5 6 rfl
theorem w_939 : Cond.code yX7_takeSecond cX7_takeSecond 2 (some .boolean) ∈ TB := qg Qt5 7 rfl
theorem w_936 : Cond.methodLink RX7 43 yX7_takeSecond ∈ TB := qg Qt5 8 rfl
theorem w_938 : Cond.instanceMethod yX7_takeSecond ∈ TB := qg Qt5 9 rfl
theorem w_24 : Cond.selects RX7 yX7_takeSecond yX7_takeSecond ∈ TB := qg Qt5 10 rfl
theorem w_498 : Cond.fieldLink RX7 56 "FortressWatch$Text" "second" "I" ∈ TB := qg Qt5 11 rfl
theorem w_943 : Cond.code yX7_takeThird cX7_takeThird 2 (some .boolean) ∈ TB := qg Qt5 12 rfl
theorem w_940 : Cond.methodLink RX7 46 yX7_takeThird ∈ TB := qg Qt5 13 rfl
theorem w_942 : Cond.instanceMethod yX7_takeThird ∈ TB := qg Qt5 14 rfl
theorem w_25 : Cond.selects RX7 yX7_takeThird yX7_takeThird ∈ TB := qg Qt5 15 rfl
theorem w_500 : Cond.fieldLink RX7 59 "FortressWatch$Text" "third" "I" ∈ TB := qg Qt5 16 rfl
theorem w_78 : Cond.code yX8_postOn cX8_postOn 3 (some .int) ∈ TB := qg Qt5 17 rfl
theorem w_91 : Cond.methodLink RX8 54 yX8_postOn ∈ TB := qg Qt5 18 rfl
theorem w_76 : Cond.instanceMethod yX8_postOn ∈ TB := qg Qt5 19 rfl
theorem w_77 : Cond.selects RX8 yX8_postOn yX8_postOn ∈ TB := qg Qt5 20 rfl
theorem w_123 : Cond.code yX8_empty cX8_empty 2 none ∈ TB := qg Qt5 21 rfl
theorem w_120 : Cond.methodLink RX8 30 yX8_empty ∈ TB := qg Qt5 22 rfl
theorem w_122 : Cond.instanceMethod yX8_empty ∈ TB := qg Qt5 23 rfl
theorem w_5 : Cond.selects RX8 yX8_empty yX8_empty ∈ TB := qg Qt5 24 rfl
theorem w_546 : Cond.fieldLink RX9 16 "FortressWatch" "before" "LFortressWatch$Wall;" ∈ TB := qg Qt5 25 rfl
theorem w_545 : Cond.fieldLink RX9 10 "FortressWatch" "wall" "LFortressWatch$Wall;" ∈ TB := qg Qt5 26 rfl
theorem w_55 : Cond.methodLink RX9 86 yX8_copyFrom ∈ TB := qg Qt5 27 rfl
theorem w_68 : Cond.code yX9_buildPost cX9_buildPost 5 (some .int) ∈ TB := qg Qt5 28 rfl
theorem w_64 : Cond.methodLink RX9 90 yX9_buildPost ∈ TB := qg Qt5 29 rfl
def qt6 : List (Nat × Cond) := [(66, Cond.instanceMethod yX9_buildPost), (1, Cond.selects RX9 yX9_buildPost yX9_buildPost), (71, Cond.code yX9_isStone cX9_isStone 1 (some .boolean)), (69, Cond.methodLink RX9 154 yX9_isStone), (70, Cond.static yX9_isStone), (74, Cond.code yX9_isReach cX9_isReach 1 (some .boolean)), (72, Cond.methodLink RX9 293 yX9_isReach), (73, Cond.static yX9_isReach), (75, Cond.methodLink RX9 296 yX8_postOn), (367, Cond.fieldLink RX9 203 "FortressWatch$Wall" "posts" "I"), (90, Cond.code yX8_add cX8_add 5 (some .int)), (87, Cond.methodLink RX9 302 yX8_add), (88, Cond.instanceMethod yX8_add), (89, Cond.selects RX8 yX8_add yX8_add), (82, Cond.code yX9_refuse cX9_refuse 3 (some .int)), (79, Cond.methodLink RX9 299 yX9_refuse), (81, Cond.instanceMethod yX9_refuse), (2, Cond.selects RX9 yX9_refuse yX9_refuse), (555, Cond.fieldLink RX9 74 "FortressWatch" "refused" "LFortressWatch$Refused;"), (557, Cond.fieldLink RX9 82 "FortressWatch" "commandNow" "I"), (86, Cond.code yX5_tell cX5_tell 4 none), (83, Cond.methodLink RX9 289 yX5_tell), (84, Cond.instanceMethod yX5_tell), (85, Cond.selects RX5 yX5_tell yX5_tell), (38, Cond.initialized RX5), (95, Cond.code yX9_kept cX9_kept 2 (some .int)), (92, Cond.methodLink RX9 94 yX9_kept), (94, Cond.instanceMethod yX9_kept), (3, Cond.selects RX9 yX9_kept yX9_kept), (548, Cond.fieldLink RX9 25 "FortressWatch" "past" "LFortressWatch$Past;")]
set_option maxRecDepth 20000 in
theorem Qt6 : qt6.all (fun q => decide (lw_tbl[q.1]? = some q.2) && goodWord q.2) = true := by decide +kernel
theorem w_66 : Cond.instanceMethod yX9_buildPost ∈ TB := qg Qt6 0 rfl
theorem w_1 : Cond.selects RX9 yX9_buildPost yX9_buildPost ∈ TB := qg Qt6 1 rfl
theorem w_71 : Cond.code yX9_isStone cX9_isStone 1 (some .boolean) ∈ TB := qg Qt6 2 rfl
theorem w_69 : Cond.methodLink RX9 154 yX9_isStone ∈ TB := qg Qt6 3 rfl
theorem w_70 : Cond.static yX9_isStone ∈ TB := qg Qt6 4 rfl
theorem w_74 : Cond.code yX9_isReach cX9_isReach 1 (some .boolean) ∈ TB := qg Qt6 5 rfl
theorem w_72 : Cond.methodLink RX9 293 yX9_isReach ∈ TB := qg Qt6 6 rfl
theorem w_73 : Cond.static yX9_isReach ∈ TB := qg Qt6 7 rfl
theorem w_75 : Cond.methodLink RX9 296 yX8_postOn ∈ TB := qg Qt6 8 rfl
theorem w_367 : Cond.fieldLink RX9 203 "FortressWatch$Wall" "posts" "I" ∈ TB := qg Qt6 9 rfl
theorem w_90 : Cond.code yX8_add cX8_add 5 (some .int) ∈ TB := qg Qt6 10 rfl
theorem w_87 : Cond.methodLink RX9 302 yX8_add ∈ TB := qg Qt6 11 rfl
theorem w_88 : Cond.instanceMethod yX8_add ∈ TB := qg Qt6 12 rfl
theorem w_89 : Cond.selects RX8 yX8_add yX8_add ∈ TB := qg Qt6 13 rfl
theorem w_82 : Cond.code yX9_refuse cX9_refuse 3 (some .int) ∈ TB := qg Qt6 14 rfl
theorem w_79 : Cond.methodLink RX9 299 yX9_refuse ∈ TB := qg Qt6 15 rfl
theorem w_81 : Cond.instanceMethod yX9_refuse ∈ TB := qg Qt6 16 rfl
theorem w_2 : Cond.selects RX9 yX9_refuse yX9_refuse ∈ TB := qg Qt6 17 rfl
theorem w_555 : Cond.fieldLink RX9 74 "FortressWatch" "refused" "LFortressWatch$Refused;" ∈ TB := qg Qt6 18 rfl
theorem w_557 : Cond.fieldLink RX9 82 "FortressWatch" "commandNow" "I" ∈ TB := qg Qt6 19 rfl
theorem w_86 : Cond.code yX5_tell cX5_tell 4 none ∈ TB := qg Qt6 20 rfl
theorem w_83 : Cond.methodLink RX9 289 yX5_tell ∈ TB := qg Qt6 21 rfl
theorem w_84 : Cond.instanceMethod yX5_tell ∈ TB := qg Qt6 22 rfl
theorem w_85 : Cond.selects RX5 yX5_tell yX5_tell ∈ TB := qg Qt6 23 rfl
theorem w_38 : Cond.initialized RX5 ∈ TB := qg Qt6 24 rfl
theorem w_95 : Cond.code yX9_kept cX9_kept 2 (some .int) ∈ TB := qg Qt6 25 rfl
theorem w_92 : Cond.methodLink RX9 94 yX9_kept ∈ TB := qg Qt6 26 rfl
theorem w_94 : Cond.instanceMethod yX9_kept ∈ TB := qg Qt6 27 rfl
theorem w_3 : Cond.selects RX9 yX9_kept yX9_kept ∈ TB := qg Qt6 28 rfl
theorem w_548 : Cond.fieldLink RX9 25 "FortressWatch" "past" "LFortressWatch$Past;" ∈ TB := qg Qt6 29 rfl
def qt7 : List (Nat × Cond) := [(99, Cond.code yX4_keep cX4_keep 3 none), (96, Cond.methodLink RX9 286 yX4_keep), (97, Cond.instanceMethod yX4_keep), (98, Cond.selects RX4 yX4_keep yX4_keep), (31, Cond.initialized RX4), (111, Cond.code yX9_tearDown cX9_tearDown 2 (some .int)), (108, Cond.methodLink RX9 98 yX9_tearDown), (110, Cond.instanceMethod yX9_tearDown), (4, Cond.selects RX9 yX9_tearDown yX9_tearDown), (112, Cond.methodLink RX9 127 yX8_isPost), (119, Cond.code yX8_remove cX8_remove 3 none), (116, Cond.methodLink RX9 305 yX8_remove), (117, Cond.instanceMethod yX8_remove), (118, Cond.selects RX8 yX8_remove yX8_remove), (620, Cond.code yX9_tellReaches cX9_tellReaches 6 (some .int)), (617, Cond.methodLink RX9 101 yX9_tellReaches), (619, Cond.instanceMethod yX9_tellReaches), (19, Cond.selects RX9 yX9_tellReaches yX9_tellReaches), (355, Cond.fieldLink RX9 308 "FortressWatch$Wall" "left" "[I"), (357, Cond.fieldLink RX9 312 "FortressWatch$Wall" "right" "[I"), (604, Cond.code yX9_tellBlindAngle cX9_tellBlindAngle 4 (some .int)), (601, Cond.methodLink RX9 104 yX9_tellBlindAngle), (603, Cond.instanceMethod yX9_tellBlindAngle), (17, Cond.selects RX9 yX9_tellBlindAngle yX9_tellBlindAngle), (359, Cond.fieldLink RX9 315 "FortressWatch$Wall" "blindFrom" "[I"), (361, Cond.fieldLink RX9 318 "FortressWatch$Wall" "blindMany" "[I"), (608, Cond.code yX9_manySeenNow cX9_manySeenNow 2 (some .int)), (605, Cond.methodLink RX9 107 yX9_manySeenNow), (607, Cond.instanceMethod yX9_manySeenNow), (18, Cond.selects RX9 yX9_manySeenNow yX9_manySeenNow)]
set_option maxRecDepth 20000 in
theorem Qt7 : qt7.all (fun q => decide (lw_tbl[q.1]? = some q.2) && goodWord q.2) = true := by decide +kernel
theorem w_99 : Cond.code yX4_keep cX4_keep 3 none ∈ TB := qg Qt7 0 rfl
theorem w_96 : Cond.methodLink RX9 286 yX4_keep ∈ TB := qg Qt7 1 rfl
theorem w_97 : Cond.instanceMethod yX4_keep ∈ TB := qg Qt7 2 rfl
theorem w_98 : Cond.selects RX4 yX4_keep yX4_keep ∈ TB := qg Qt7 3 rfl
theorem w_31 : Cond.initialized RX4 ∈ TB := qg Qt7 4 rfl
theorem w_111 : Cond.code yX9_tearDown cX9_tearDown 2 (some .int) ∈ TB := qg Qt7 5 rfl
theorem w_108 : Cond.methodLink RX9 98 yX9_tearDown ∈ TB := qg Qt7 6 rfl
theorem w_110 : Cond.instanceMethod yX9_tearDown ∈ TB := qg Qt7 7 rfl
theorem w_4 : Cond.selects RX9 yX9_tearDown yX9_tearDown ∈ TB := qg Qt7 8 rfl
theorem w_112 : Cond.methodLink RX9 127 yX8_isPost ∈ TB := qg Qt7 9 rfl
theorem w_119 : Cond.code yX8_remove cX8_remove 3 none ∈ TB := qg Qt7 10 rfl
theorem w_116 : Cond.methodLink RX9 305 yX8_remove ∈ TB := qg Qt7 11 rfl
theorem w_117 : Cond.instanceMethod yX8_remove ∈ TB := qg Qt7 12 rfl
theorem w_118 : Cond.selects RX8 yX8_remove yX8_remove ∈ TB := qg Qt7 13 rfl
theorem w_620 : Cond.code yX9_tellReaches cX9_tellReaches 6 (some .int) ∈ TB := qg Qt7 14 rfl
theorem w_617 : Cond.methodLink RX9 101 yX9_tellReaches ∈ TB := qg Qt7 15 rfl
theorem w_619 : Cond.instanceMethod yX9_tellReaches ∈ TB := qg Qt7 16 rfl
theorem w_19 : Cond.selects RX9 yX9_tellReaches yX9_tellReaches ∈ TB := qg Qt7 17 rfl
theorem w_355 : Cond.fieldLink RX9 308 "FortressWatch$Wall" "left" "[I" ∈ TB := qg Qt7 18 rfl
theorem w_357 : Cond.fieldLink RX9 312 "FortressWatch$Wall" "right" "[I" ∈ TB := qg Qt7 19 rfl
theorem w_604 : Cond.code yX9_tellBlindAngle cX9_tellBlindAngle 4 (some .int) ∈ TB := qg Qt7 20 rfl
theorem w_601 : Cond.methodLink RX9 104 yX9_tellBlindAngle ∈ TB := qg Qt7 21 rfl
theorem w_603 : Cond.instanceMethod yX9_tellBlindAngle ∈ TB := qg Qt7 22 rfl
theorem w_17 : Cond.selects RX9 yX9_tellBlindAngle yX9_tellBlindAngle ∈ TB := qg Qt7 23 rfl
theorem w_359 : Cond.fieldLink RX9 315 "FortressWatch$Wall" "blindFrom" "[I" ∈ TB := qg Qt7 24 rfl
theorem w_361 : Cond.fieldLink RX9 318 "FortressWatch$Wall" "blindMany" "[I" ∈ TB := qg Qt7 25 rfl
theorem w_608 : Cond.code yX9_manySeenNow cX9_manySeenNow 2 (some .int) ∈ TB := qg Qt7 26 rfl
theorem w_605 : Cond.methodLink RX9 107 yX9_manySeenNow ∈ TB := qg Qt7 27 rfl
theorem w_607 : Cond.instanceMethod yX9_manySeenNow ∈ TB := qg Qt7 28 rfl
theorem w_18 : Cond.selects RX9 yX9_manySeenNow yX9_manySeenNow ∈ TB := qg Qt7 29 rfl
def qt8 : List (Nat × Cond) := [(549, Cond.fieldLink RX9 32 "FortressWatch" "sights" "LFortressWatch$Sights;"), (369, Cond.fieldLink RX9 134 "FortressWatch$Wall" "hour" "I"), (146, Cond.code yX6_lookAt cX6_lookAt 4 none), (143, Cond.methodLink RX9 137 yX6_lookAt), (144, Cond.instanceMethod yX6_lookAt), (145, Cond.selects RX6 yX6_lookAt yX6_lookAt), (242, Cond.code yX6_manySeen cX6_manySeen 2 (some .int)), (239, Cond.methodLink RX9 141 yX6_manySeen), (240, Cond.instanceMethod yX6_manySeen), (241, Cond.selects RX6 yX6_manySeen yX6_manySeen), (628, Cond.code yX9_dropBlindAngle cX9_dropBlindAngle 2 (some .int)), (625, Cond.methodLink RX9 110 yX9_dropBlindAngle), (627, Cond.instanceMethod yX9_dropBlindAngle), (20, Cond.selects RX9 yX9_dropBlindAngle yX9_dropBlindAngle), (592, Cond.code yX9_letBeManned cX9_letBeManned 3 (some .int)), (589, Cond.methodLink RX9 113 yX9_letBeManned), (591, Cond.instanceMethod yX9_letBeManned), (15, Cond.selects RX9 yX9_letBeManned yX9_letBeManned), (364, Cond.fieldLink RX9 321 "FortressWatch$Wall" "manned" "[I"), (596, Cond.code yX9_manyWatchedNow cX9_manyWatchedNow 1 (some .int)), (593, Cond.methodLink RX9 117 yX9_manyWatchedNow), (595, Cond.instanceMethod yX9_manyWatchedNow), (16, Cond.selects RX9 yX9_manyWatchedNow yX9_manyWatchedNow), (427, Cond.fieldLink RX9 163 "FortressWatch$Sights" "manned" "I"), (186, Cond.methodLink RX9 171 yX6_seenBySet), (193, Cond.methodLink RX9 166 yJ6_bitCount_0f7a4), (131, Cond.code yX9_tellHour cX9_tellHour 3 (some .int)), (128, Cond.methodLink RX9 121 yX9_tellHour), (130, Cond.instanceMethod yX9_tellHour), (6, Cond.selects RX9 yX9_tellHour yX9_tellHour)]
set_option maxRecDepth 20000 in
theorem Qt8 : qt8.all (fun q => decide (lw_tbl[q.1]? = some q.2) && goodWord q.2) = true := by decide +kernel
theorem w_549 : Cond.fieldLink RX9 32 "FortressWatch" "sights" "LFortressWatch$Sights;" ∈ TB := qg Qt8 0 rfl
theorem w_369 : Cond.fieldLink RX9 134 "FortressWatch$Wall" "hour" "I" ∈ TB := qg Qt8 1 rfl
theorem w_146 : Cond.code yX6_lookAt cX6_lookAt 4 none ∈ TB := qg Qt8 2 rfl
theorem w_143 : Cond.methodLink RX9 137 yX6_lookAt ∈ TB := qg Qt8 3 rfl
theorem w_144 : Cond.instanceMethod yX6_lookAt ∈ TB := qg Qt8 4 rfl
theorem w_145 : Cond.selects RX6 yX6_lookAt yX6_lookAt ∈ TB := qg Qt8 5 rfl
theorem w_242 : Cond.code yX6_manySeen cX6_manySeen 2 (some .int) ∈ TB := qg Qt8 6 rfl
theorem w_239 : Cond.methodLink RX9 141 yX6_manySeen ∈ TB := qg Qt8 7 rfl
theorem w_240 : Cond.instanceMethod yX6_manySeen ∈ TB := qg Qt8 8 rfl
theorem w_241 : Cond.selects RX6 yX6_manySeen yX6_manySeen ∈ TB := qg Qt8 9 rfl
theorem w_628 : Cond.code yX9_dropBlindAngle cX9_dropBlindAngle 2 (some .int) ∈ TB := qg Qt8 10 rfl
theorem w_625 : Cond.methodLink RX9 110 yX9_dropBlindAngle ∈ TB := qg Qt8 11 rfl
theorem w_627 : Cond.instanceMethod yX9_dropBlindAngle ∈ TB := qg Qt8 12 rfl
theorem w_20 : Cond.selects RX9 yX9_dropBlindAngle yX9_dropBlindAngle ∈ TB := qg Qt8 13 rfl
theorem w_592 : Cond.code yX9_letBeManned cX9_letBeManned 3 (some .int) ∈ TB := qg Qt8 14 rfl
theorem w_589 : Cond.methodLink RX9 113 yX9_letBeManned ∈ TB := qg Qt8 15 rfl
theorem w_591 : Cond.instanceMethod yX9_letBeManned ∈ TB := qg Qt8 16 rfl
theorem w_15 : Cond.selects RX9 yX9_letBeManned yX9_letBeManned ∈ TB := qg Qt8 17 rfl
theorem w_364 : Cond.fieldLink RX9 321 "FortressWatch$Wall" "manned" "[I" ∈ TB := qg Qt8 18 rfl
theorem w_596 : Cond.code yX9_manyWatchedNow cX9_manyWatchedNow 1 (some .int) ∈ TB := qg Qt8 19 rfl
theorem w_593 : Cond.methodLink RX9 117 yX9_manyWatchedNow ∈ TB := qg Qt8 20 rfl
theorem w_595 : Cond.instanceMethod yX9_manyWatchedNow ∈ TB := qg Qt8 21 rfl
theorem w_16 : Cond.selects RX9 yX9_manyWatchedNow yX9_manyWatchedNow ∈ TB := qg Qt8 22 rfl
theorem w_427 : Cond.fieldLink RX9 163 "FortressWatch$Sights" "manned" "I" ∈ TB := qg Qt8 23 rfl
theorem w_186 : Cond.methodLink RX9 171 yX6_seenBySet ∈ TB := qg Qt8 24 rfl
theorem w_193 : Cond.methodLink RX9 166 yJ6_bitCount_0f7a4 ∈ TB := qg Qt8 25 rfl
theorem w_131 : Cond.code yX9_tellHour cX9_tellHour 3 (some .int) ∈ TB := qg Qt8 26 rfl
theorem w_128 : Cond.methodLink RX9 121 yX9_tellHour ∈ TB := qg Qt8 27 rfl
theorem w_130 : Cond.instanceMethod yX9_tellHour ∈ TB := qg Qt8 28 rfl
theorem w_6 : Cond.selects RX9 yX9_tellHour yX9_tellHour ∈ TB := qg Qt8 29 rfl
def qt9 : List (Nat × Cond) := [(134, Cond.code yX9_isHour cX9_isHour 1 (some .boolean)), (132, Cond.methodLink RX9 210 yX9_isHour), (133, Cond.static yX9_isHour), (142, Cond.code yX9_manFewest cX9_manFewest 1 (some .int)), (139, Cond.methodLink RX9 124 yX9_manFewest), (141, Cond.instanceMethod yX9_manFewest), (7, Cond.selects RX9 yX9_manFewest yX9_manFewest), (550, Cond.fieldLink RX9 39 "FortressWatch" "chooser" "LFortressWatch$Chooser;"), (165, Cond.code yX0_trySets cX0_trySets 6 none), (162, Cond.methodLink RX9 147 yX0_trySets), (163, Cond.instanceMethod yX0_trySets), (164, Cond.selects RX0 yX0_trySets yX0_trySets), (443, Cond.fieldLink RX9 193 "FortressWatch$Chooser" "best" "I"), (197, Cond.code yX8_manJust cX8_manJust 3 none), (194, Cond.methodLink RX9 326 yX8_manJust), (195, Cond.instanceMethod yX8_manJust), (196, Cond.selects RX8 yX8_manJust yX8_manJust), (185, Cond.code yX9_manyUnseen cX9_manyUnseen 1 (some .int)), (182, Cond.methodLink RX9 323 yX9_manyUnseen), (184, Cond.instanceMethod yX9_manyUnseen), (9, Cond.selects RX9 yX9_manyUnseen yX9_manyUnseen), (447, Cond.fieldLink RX9 151 "FortressWatch$Chooser" "inEach" "I"), (251, Cond.code yX6_manySeenAlone cX6_manySeenAlone 2 (some .int)), (248, Cond.methodLink RX9 144 yX6_manySeenAlone), (249, Cond.instanceMethod yX6_manySeenAlone), (250, Cond.selects RX6 yX6_manySeenAlone yX6_manySeenAlone), (247, Cond.code yX8_numberOf cX8_numberOf 3 (some .int)), (244, Cond.methodLink RX9 131 yX8_numberOf), (245, Cond.instanceMethod yX8_numberOf), (246, Cond.selects RX8 yX8_numberOf yX8_numberOf)]
set_option maxRecDepth 20000 in
theorem Qt9 : qt9.all (fun q => decide (lw_tbl[q.1]? = some q.2) && goodWord q.2) = true := by decide +kernel
theorem w_134 : Cond.code yX9_isHour cX9_isHour 1 (some .boolean) ∈ TB := qg Qt9 0 rfl
theorem w_132 : Cond.methodLink RX9 210 yX9_isHour ∈ TB := qg Qt9 1 rfl
theorem w_133 : Cond.static yX9_isHour ∈ TB := qg Qt9 2 rfl
theorem w_142 : Cond.code yX9_manFewest cX9_manFewest 1 (some .int) ∈ TB := qg Qt9 3 rfl
theorem w_139 : Cond.methodLink RX9 124 yX9_manFewest ∈ TB := qg Qt9 4 rfl
theorem w_141 : Cond.instanceMethod yX9_manFewest ∈ TB := qg Qt9 5 rfl
theorem w_7 : Cond.selects RX9 yX9_manFewest yX9_manFewest ∈ TB := qg Qt9 6 rfl
theorem w_550 : Cond.fieldLink RX9 39 "FortressWatch" "chooser" "LFortressWatch$Chooser;" ∈ TB := qg Qt9 7 rfl
theorem w_165 : Cond.code yX0_trySets cX0_trySets 6 none ∈ TB := qg Qt9 8 rfl
theorem w_162 : Cond.methodLink RX9 147 yX0_trySets ∈ TB := qg Qt9 9 rfl
theorem w_163 : Cond.instanceMethod yX0_trySets ∈ TB := qg Qt9 10 rfl
theorem w_164 : Cond.selects RX0 yX0_trySets yX0_trySets ∈ TB := qg Qt9 11 rfl
theorem w_443 : Cond.fieldLink RX9 193 "FortressWatch$Chooser" "best" "I" ∈ TB := qg Qt9 12 rfl
theorem w_197 : Cond.code yX8_manJust cX8_manJust 3 none ∈ TB := qg Qt9 13 rfl
theorem w_194 : Cond.methodLink RX9 326 yX8_manJust ∈ TB := qg Qt9 14 rfl
theorem w_195 : Cond.instanceMethod yX8_manJust ∈ TB := qg Qt9 15 rfl
theorem w_196 : Cond.selects RX8 yX8_manJust yX8_manJust ∈ TB := qg Qt9 16 rfl
theorem w_185 : Cond.code yX9_manyUnseen cX9_manyUnseen 1 (some .int) ∈ TB := qg Qt9 17 rfl
theorem w_182 : Cond.methodLink RX9 323 yX9_manyUnseen ∈ TB := qg Qt9 18 rfl
theorem w_184 : Cond.instanceMethod yX9_manyUnseen ∈ TB := qg Qt9 19 rfl
theorem w_9 : Cond.selects RX9 yX9_manyUnseen yX9_manyUnseen ∈ TB := qg Qt9 20 rfl
theorem w_447 : Cond.fieldLink RX9 151 "FortressWatch$Chooser" "inEach" "I" ∈ TB := qg Qt9 21 rfl
theorem w_251 : Cond.code yX6_manySeenAlone cX6_manySeenAlone 2 (some .int) ∈ TB := qg Qt9 22 rfl
theorem w_248 : Cond.methodLink RX9 144 yX6_manySeenAlone ∈ TB := qg Qt9 23 rfl
theorem w_249 : Cond.instanceMethod yX6_manySeenAlone ∈ TB := qg Qt9 24 rfl
theorem w_250 : Cond.selects RX6 yX6_manySeenAlone yX6_manySeenAlone ∈ TB := qg Qt9 25 rfl
theorem w_247 : Cond.code yX8_numberOf cX8_numberOf 3 (some .int) ∈ TB := qg Qt9 26 rfl
theorem w_244 : Cond.methodLink RX9 131 yX8_numberOf ∈ TB := qg Qt9 27 rfl
theorem w_245 : Cond.instanceMethod yX8_numberOf ∈ TB := qg Qt9 28 rfl
theorem w_246 : Cond.selects RX8 yX8_numberOf yX8_numberOf ∈ TB := qg Qt9 29 rfl
def qt10 : List (Nat × Cond) := [(979, Cond.methodLink RX9 157 yX6_of), (984, Cond.methodLink RX9 160 yX6_seersOf), (551, Cond.fieldLink RX9 46 "FortressWatch" "gaps" "LFortressWatch$Gaps;"), (281, Cond.code yX1_find cX1_find 4 none), (278, Cond.methodLink RX9 174 yX1_find), (279, Cond.instanceMethod yX1_find), (280, Cond.selects RX1 yX1_find yX1_find), (996, Cond.methodLink RX9 178 yX1_isGap), (1000, Cond.code yX1_firstOf cX1_firstOf 2 (some .int)), (997, Cond.methodLink RX9 181 yX1_firstOf), (998, Cond.instanceMethod yX1_firstOf), (999, Cond.selects RX1 yX1_firstOf yX1_firstOf), (1001, Cond.methodLink RX9 184 yX1_lengthOf), (1002, Cond.methodLink RX9 187 yX9_stretch), (214, Cond.code yX6_bestAmong cX6_bestAmong 7 (some .int)), (211, Cond.methodLink RX9 190 yX6_bestAmong), (212, Cond.instanceMethod yX6_bestAmong), (213, Cond.selects RX6 yX6_bestAmong yX6_bestAmong), (1015, Cond.code yX0_searchStones cX0_searchStones 3 (some .int)), (1012, Cond.methodLink RX9 196 yX0_searchStones), (1013, Cond.instanceMethod yX0_searchStones), (1014, Cond.selects RX0 yX0_searchStones yX0_searchStones), (445, Cond.fieldLink RX9 200 "FortressWatch$Chooser" "ways" "I"), (209, Cond.code yX9_closingMost cX9_closingMost 3 (some .int)), (206, Cond.methodLink RX9 207 yX9_closingMost), (208, Cond.instanceMethod yX9_closingMost), (10, Cond.selects RX9 yX9_closingMost yX9_closingMost), (228, Cond.methodLink RX9 213 yX9_turned), (552, Cond.fieldLink RX9 53 "FortressWatch" "order" "LFortressWatch$Order;"), (260, Cond.code yX3_at cX3_at 4 (some .int))]
set_option maxRecDepth 20000 in
theorem Qt10 : qt10.all (fun q => decide (lw_tbl[q.1]? = some q.2) && goodWord q.2) = true := by decide +kernel
theorem w_979 : Cond.methodLink RX9 157 yX6_of ∈ TB := qg Qt10 0 rfl
theorem w_984 : Cond.methodLink RX9 160 yX6_seersOf ∈ TB := qg Qt10 1 rfl
theorem w_551 : Cond.fieldLink RX9 46 "FortressWatch" "gaps" "LFortressWatch$Gaps;" ∈ TB := qg Qt10 2 rfl
theorem w_281 : Cond.code yX1_find cX1_find 4 none ∈ TB := qg Qt10 3 rfl
theorem w_278 : Cond.methodLink RX9 174 yX1_find ∈ TB := qg Qt10 4 rfl
theorem w_279 : Cond.instanceMethod yX1_find ∈ TB := qg Qt10 5 rfl
theorem w_280 : Cond.selects RX1 yX1_find yX1_find ∈ TB := qg Qt10 6 rfl
theorem w_996 : Cond.methodLink RX9 178 yX1_isGap ∈ TB := qg Qt10 7 rfl
theorem w_1000 : Cond.code yX1_firstOf cX1_firstOf 2 (some .int) ∈ TB := qg Qt10 8 rfl
theorem w_997 : Cond.methodLink RX9 181 yX1_firstOf ∈ TB := qg Qt10 9 rfl
theorem w_998 : Cond.instanceMethod yX1_firstOf ∈ TB := qg Qt10 10 rfl
theorem w_999 : Cond.selects RX1 yX1_firstOf yX1_firstOf ∈ TB := qg Qt10 11 rfl
theorem w_1001 : Cond.methodLink RX9 184 yX1_lengthOf ∈ TB := qg Qt10 12 rfl
theorem w_1002 : Cond.methodLink RX9 187 yX9_stretch ∈ TB := qg Qt10 13 rfl
theorem w_214 : Cond.code yX6_bestAmong cX6_bestAmong 7 (some .int) ∈ TB := qg Qt10 14 rfl
theorem w_211 : Cond.methodLink RX9 190 yX6_bestAmong ∈ TB := qg Qt10 15 rfl
theorem w_212 : Cond.instanceMethod yX6_bestAmong ∈ TB := qg Qt10 16 rfl
theorem w_213 : Cond.selects RX6 yX6_bestAmong yX6_bestAmong ∈ TB := qg Qt10 17 rfl
theorem w_1015 : Cond.code yX0_searchStones cX0_searchStones 3 (some .int) ∈ TB := qg Qt10 18 rfl
theorem w_1012 : Cond.methodLink RX9 196 yX0_searchStones ∈ TB := qg Qt10 19 rfl
theorem w_1013 : Cond.instanceMethod yX0_searchStones ∈ TB := qg Qt10 20 rfl
theorem w_1014 : Cond.selects RX0 yX0_searchStones yX0_searchStones ∈ TB := qg Qt10 21 rfl
theorem w_445 : Cond.fieldLink RX9 200 "FortressWatch$Chooser" "ways" "I" ∈ TB := qg Qt10 22 rfl
theorem w_209 : Cond.code yX9_closingMost cX9_closingMost 3 (some .int) ∈ TB := qg Qt10 23 rfl
theorem w_206 : Cond.methodLink RX9 207 yX9_closingMost ∈ TB := qg Qt10 24 rfl
theorem w_208 : Cond.instanceMethod yX9_closingMost ∈ TB := qg Qt10 25 rfl
theorem w_10 : Cond.selects RX9 yX9_closingMost yX9_closingMost ∈ TB := qg Qt10 26 rfl
theorem w_228 : Cond.methodLink RX9 213 yX9_turned ∈ TB := qg Qt10 27 rfl
theorem w_552 : Cond.fieldLink RX9 53 "FortressWatch" "order" "LFortressWatch$Order;" ∈ TB := qg Qt10 28 rfl
theorem w_260 : Cond.code yX3_at cX3_at 4 (some .int) ∈ TB := qg Qt10 29 rfl
def qt11 : List (Nat × Cond) := [(257, Cond.methodLink RX9 223 yX3_at), (258, Cond.instanceMethod yX3_at), (259, Cond.selects RX3 yX3_at yX3_at), (238, Cond.code yX9_keyOf cX9_keyOf 3 (some .int)), (235, Cond.methodLink RX9 216 yX9_keyOf), (237, Cond.instanceMethod yX9_keyOf), (11, Cond.selects RX9 yX9_keyOf yX9_keyOf), (256, Cond.code yX3_giveKey cX3_giveKey 3 none), (253, Cond.methodLink RX9 219 yX3_giveKey), (254, Cond.instanceMethod yX3_giveKey), (255, Cond.selects RX3 yX3_giveKey yX3_giveKey), (553, Cond.fieldLink RX9 60 "FortressWatch" "text" "LFortressWatch$Text;"), (903, Cond.code yX7_put cX7_put 2 (some .int)), (900, Cond.methodLink RX9 247 yX7_put), (901, Cond.instanceMethod yX7_put), (902, Cond.selects RX7 yX7_put yX7_put), (911, Cond.code yX7_findFault cX7_findFault 2 (some .int)), (908, Cond.methodLink RX9 249 yX7_findFault), (909, Cond.instanceMethod yX7_findFault), (910, Cond.selects RX7 yX7_findFault yX7_findFault), (951, Cond.code yX9_carryOutAll cX9_carryOutAll 4 (some .int)), (948, Cond.methodLink RX9 253 yX9_carryOutAll), (950, Cond.instanceMethod yX9_carryOutAll), (26, Cond.selects RX9 yX9_carryOutAll yX9_carryOutAll), (952, Cond.methodLink RX9 329 yX7_rewind), (953, Cond.methodLink RX9 332 yX7_takeCommand), (957, Cond.code yX9_carryOut cX9_carryOut 1 (some .int)), (954, Cond.methodLink RX9 336 yX9_carryOut), (956, Cond.instanceMethod yX9_carryOut), (27, Cond.selects RX9 yX9_carryOut yX9_carryOut)]
set_option maxRecDepth 20000 in
theorem Qt11 : qt11.all (fun q => decide (lw_tbl[q.1]? = some q.2) && goodWord q.2) = true := by decide +kernel
theorem w_257 : Cond.methodLink RX9 223 yX3_at ∈ TB := qg Qt11 0 rfl
theorem w_258 : Cond.instanceMethod yX3_at ∈ TB := qg Qt11 1 rfl
theorem w_259 : Cond.selects RX3 yX3_at yX3_at ∈ TB := qg Qt11 2 rfl
theorem w_238 : Cond.code yX9_keyOf cX9_keyOf 3 (some .int) ∈ TB := qg Qt11 3 rfl
theorem w_235 : Cond.methodLink RX9 216 yX9_keyOf ∈ TB := qg Qt11 4 rfl
theorem w_237 : Cond.instanceMethod yX9_keyOf ∈ TB := qg Qt11 5 rfl
theorem w_11 : Cond.selects RX9 yX9_keyOf yX9_keyOf ∈ TB := qg Qt11 6 rfl
theorem w_256 : Cond.code yX3_giveKey cX3_giveKey 3 none ∈ TB := qg Qt11 7 rfl
theorem w_253 : Cond.methodLink RX9 219 yX3_giveKey ∈ TB := qg Qt11 8 rfl
theorem w_254 : Cond.instanceMethod yX3_giveKey ∈ TB := qg Qt11 9 rfl
theorem w_255 : Cond.selects RX3 yX3_giveKey yX3_giveKey ∈ TB := qg Qt11 10 rfl
theorem w_553 : Cond.fieldLink RX9 60 "FortressWatch" "text" "LFortressWatch$Text;" ∈ TB := qg Qt11 11 rfl
theorem w_903 : Cond.code yX7_put cX7_put 2 (some .int) ∈ TB := qg Qt11 12 rfl
theorem w_900 : Cond.methodLink RX9 247 yX7_put ∈ TB := qg Qt11 13 rfl
theorem w_901 : Cond.instanceMethod yX7_put ∈ TB := qg Qt11 14 rfl
theorem w_902 : Cond.selects RX7 yX7_put yX7_put ∈ TB := qg Qt11 15 rfl
theorem w_911 : Cond.code yX7_findFault cX7_findFault 2 (some .int) ∈ TB := qg Qt11 16 rfl
theorem w_908 : Cond.methodLink RX9 249 yX7_findFault ∈ TB := qg Qt11 17 rfl
theorem w_909 : Cond.instanceMethod yX7_findFault ∈ TB := qg Qt11 18 rfl
theorem w_910 : Cond.selects RX7 yX7_findFault yX7_findFault ∈ TB := qg Qt11 19 rfl
theorem w_951 : Cond.code yX9_carryOutAll cX9_carryOutAll 4 (some .int) ∈ TB := qg Qt11 20 rfl
theorem w_948 : Cond.methodLink RX9 253 yX9_carryOutAll ∈ TB := qg Qt11 21 rfl
theorem w_950 : Cond.instanceMethod yX9_carryOutAll ∈ TB := qg Qt11 22 rfl
theorem w_26 : Cond.selects RX9 yX9_carryOutAll yX9_carryOutAll ∈ TB := qg Qt11 23 rfl
theorem w_952 : Cond.methodLink RX9 329 yX7_rewind ∈ TB := qg Qt11 24 rfl
theorem w_953 : Cond.methodLink RX9 332 yX7_takeCommand ∈ TB := qg Qt11 25 rfl
theorem w_957 : Cond.code yX9_carryOut cX9_carryOut 1 (some .int) ∈ TB := qg Qt11 26 rfl
theorem w_954 : Cond.methodLink RX9 336 yX9_carryOut ∈ TB := qg Qt11 27 rfl
theorem w_956 : Cond.instanceMethod yX9_carryOut ∈ TB := qg Qt11 28 rfl
theorem w_27 : Cond.selects RX9 yX9_carryOut yX9_carryOut ∈ TB := qg Qt11 29 rfl
def qt12 : List (Nat × Cond) := [(495, Cond.fieldLink RX9 342 "FortressWatch$Text" "letter" "I"), (497, Cond.fieldLink RX9 345 "FortressWatch$Text" "first" "I"), (499, Cond.fieldLink RX9 348 "FortressWatch$Text" "second" "I"), (501, Cond.fieldLink RX9 351 "FortressWatch$Text" "third" "I"), (958, Cond.methodLink RX9 339 yX7_skip), (947, Cond.code yX7_clear cX7_clear 1 none), (944, Cond.methodLink RX9 252 yX7_clear), (945, Cond.instanceMethod yX7_clear), (946, Cond.selects RX7 yX7_clear yX7_clear), (277, Cond.code yX9_sightAccount cX9_sightAccount 3 (some .int)), (274, Cond.methodLink RX9 265 yX9_sightAccount), (276, Cond.instanceMethod yX9_sightAccount), (13, Cond.selects RX9 yX9_sightAccount yX9_sightAccount), (295, Cond.code yX6_overlaps cX6_overlaps 4 (some .int)), (292, Cond.methodLink RX9 354 yX6_overlaps), (293, Cond.instanceMethod yX6_overlaps), (294, Cond.selects RX6 yX6_overlaps yX6_overlaps), (467, Cond.fieldLink RX9 357 "FortressWatch$Gaps" "many" "I"), (299, Cond.code yX1_longest cX1_longest 3 (some .int)), (296, Cond.methodLink RX9 358 yX1_longest), (297, Cond.instanceMethod yX1_longest), (298, Cond.selects RX1 yX1_longest yX1_longest), (273, Cond.code yX8_accountOf cX8_accountOf 2 (some .int)), (270, Cond.methodLink RX9 262 yX8_accountOf), (271, Cond.instanceMethod yX8_accountOf), (272, Cond.selects RX8 yX8_accountOf yX8_accountOf), (409, Cond.fieldLink RX9 259 "FortressWatch$Past" "many" "I"), (493, Cond.fieldLink RX9 258 "FortressWatch$Text" "length" "I"), (1064, Cond.code yX1_lengthOfAll cX1_lengthOfAll 3 (some .int)), (1061, Cond.methodLink RX9 268 yX1_lengthOfAll)]
set_option maxRecDepth 20000 in
theorem Qt12 : qt12.all (fun q => decide (lw_tbl[q.1]? = some q.2) && goodWord q.2) = true := by decide +kernel
theorem w_495 : Cond.fieldLink RX9 342 "FortressWatch$Text" "letter" "I" ∈ TB := qg Qt12 0 rfl
theorem w_497 : Cond.fieldLink RX9 345 "FortressWatch$Text" "first" "I" ∈ TB := qg Qt12 1 rfl
theorem w_499 : Cond.fieldLink RX9 348 "FortressWatch$Text" "second" "I" ∈ TB := qg Qt12 2 rfl
theorem w_501 : Cond.fieldLink RX9 351 "FortressWatch$Text" "third" "I" ∈ TB := qg Qt12 3 rfl
theorem w_958 : Cond.methodLink RX9 339 yX7_skip ∈ TB := qg Qt12 4 rfl
theorem w_947 : Cond.code yX7_clear cX7_clear 1 none ∈ TB := qg Qt12 5 rfl
theorem w_944 : Cond.methodLink RX9 252 yX7_clear ∈ TB := qg Qt12 6 rfl
theorem w_945 : Cond.instanceMethod yX7_clear ∈ TB := qg Qt12 7 rfl
theorem w_946 : Cond.selects RX7 yX7_clear yX7_clear ∈ TB := qg Qt12 8 rfl
theorem w_277 : Cond.code yX9_sightAccount cX9_sightAccount 3 (some .int) ∈ TB := qg Qt12 9 rfl
theorem w_274 : Cond.methodLink RX9 265 yX9_sightAccount ∈ TB := qg Qt12 10 rfl
theorem w_276 : Cond.instanceMethod yX9_sightAccount ∈ TB := qg Qt12 11 rfl
theorem w_13 : Cond.selects RX9 yX9_sightAccount yX9_sightAccount ∈ TB := qg Qt12 12 rfl
theorem w_295 : Cond.code yX6_overlaps cX6_overlaps 4 (some .int) ∈ TB := qg Qt12 13 rfl
theorem w_292 : Cond.methodLink RX9 354 yX6_overlaps ∈ TB := qg Qt12 14 rfl
theorem w_293 : Cond.instanceMethod yX6_overlaps ∈ TB := qg Qt12 15 rfl
theorem w_294 : Cond.selects RX6 yX6_overlaps yX6_overlaps ∈ TB := qg Qt12 16 rfl
theorem w_467 : Cond.fieldLink RX9 357 "FortressWatch$Gaps" "many" "I" ∈ TB := qg Qt12 17 rfl
theorem w_299 : Cond.code yX1_longest cX1_longest 3 (some .int) ∈ TB := qg Qt12 18 rfl
theorem w_296 : Cond.methodLink RX9 358 yX1_longest ∈ TB := qg Qt12 19 rfl
theorem w_297 : Cond.instanceMethod yX1_longest ∈ TB := qg Qt12 20 rfl
theorem w_298 : Cond.selects RX1 yX1_longest yX1_longest ∈ TB := qg Qt12 21 rfl
theorem w_273 : Cond.code yX8_accountOf cX8_accountOf 2 (some .int) ∈ TB := qg Qt12 22 rfl
theorem w_270 : Cond.methodLink RX9 262 yX8_accountOf ∈ TB := qg Qt12 23 rfl
theorem w_271 : Cond.instanceMethod yX8_accountOf ∈ TB := qg Qt12 24 rfl
theorem w_272 : Cond.selects RX8 yX8_accountOf yX8_accountOf ∈ TB := qg Qt12 25 rfl
theorem w_409 : Cond.fieldLink RX9 259 "FortressWatch$Past" "many" "I" ∈ TB := qg Qt12 26 rfl
theorem w_493 : Cond.fieldLink RX9 258 "FortressWatch$Text" "length" "I" ∈ TB := qg Qt12 27 rfl
theorem w_1064 : Cond.code yX1_lengthOfAll cX1_lengthOfAll 3 (some .int) ∈ TB := qg Qt12 28 rfl
theorem w_1061 : Cond.methodLink RX9 268 yX1_lengthOfAll ∈ TB := qg Qt12 29 rfl
def qt13 : List (Nat × Cond) := [(1062, Cond.instanceMethod yX1_lengthOfAll), (1063, Cond.selects RX1 yX1_lengthOfAll yX1_lengthOfAll), (1041, Cond.constantFloat RX9 275 (1103101952)), (1044, Cond.code yX9_bitsOf cX9_bitsOf 4 (some .int)), (1042, Cond.methodLink RX9 276 yX9_bitsOf), (1043, Cond.static yX9_bitsOf), (1045, Cond.constantFloat RX9 363 (1258291200)), (1040, Cond.methodLink RX9 271 yX9_isIn), (316, Cond.code yX4_takeBack cX4_takeBack 3 none), (313, Cond.methodLink RX9 280 yX4_takeBack), (314, Cond.instanceMethod yX4_takeBack), (315, Cond.selects RX4 yX4_takeBack yX4_takeBack), (547, Cond.fieldLink RX9 19 "FortressWatch" "snapshot" "LFortressWatch$Wall;"), (556, Cond.fieldLink RX9 78 "FortressWatch" "hasSnapshot" "Z"), (328, Cond.code yX4_forget cX4_forget 1 none), (325, Cond.methodLink RX9 283 yX4_forget), (326, Cond.instanceMethod yX4_forget), (327, Cond.selects RX4 yX4_forget yX4_forget), (1052, Cond.code yJxf58ca_isNaN_12338 cJxf58ca_isNaN_12338 1 (some .boolean)), (1050, Cond.methodLink RJxf58ca 59 yJxf58ca_isNaN_12338), (1051, Cond.static yJxf58ca_isNaN_12338), (41, Cond.initialized RJxf58ca), (1056, Cond.constant RJxf58ca 77 (2143289344)), (1053, Cond.methodLink RJxf58ca 74 ⟨"java/lang/Float", "floatToRawIntBits", "(F)I"⟩), (1055, Cond.native ⟨"java/lang/Float", "floatToRawIntBits", "(F)I"⟩), (1054, Cond.static ⟨"java/lang/Float", "floatToRawIntBits", "(F)I"⟩), (269, Cond.code yX9_account cX9_account 2 (some .int)), (266, Cond.methodLink RL 96 yX9_account), (267, Cond.instanceMethod yX9_account), (268, Cond.selects RX9 yX9_account yX9_account)]
set_option maxRecDepth 20000 in
theorem Qt13 : qt13.all (fun q => decide (lw_tbl[q.1]? = some q.2) && goodWord q.2) = true := by decide +kernel
theorem w_1062 : Cond.instanceMethod yX1_lengthOfAll ∈ TB := qg Qt13 0 rfl
theorem w_1063 : Cond.selects RX1 yX1_lengthOfAll yX1_lengthOfAll ∈ TB := qg Qt13 1 rfl
theorem w_1041 : Cond.constantFloat RX9 275 (1103101952) ∈ TB := qg Qt13 2 rfl
theorem w_1044 : Cond.code yX9_bitsOf cX9_bitsOf 4 (some .int) ∈ TB := qg Qt13 3 rfl
theorem w_1042 : Cond.methodLink RX9 276 yX9_bitsOf ∈ TB := qg Qt13 4 rfl
theorem w_1043 : Cond.static yX9_bitsOf ∈ TB := qg Qt13 5 rfl
theorem w_1045 : Cond.constantFloat RX9 363 (1258291200) ∈ TB := qg Qt13 6 rfl
theorem w_1040 : Cond.methodLink RX9 271 yX9_isIn ∈ TB := qg Qt13 7 rfl
theorem w_316 : Cond.code yX4_takeBack cX4_takeBack 3 none ∈ TB := qg Qt13 8 rfl
theorem w_313 : Cond.methodLink RX9 280 yX4_takeBack ∈ TB := qg Qt13 9 rfl
theorem w_314 : Cond.instanceMethod yX4_takeBack ∈ TB := qg Qt13 10 rfl
theorem w_315 : Cond.selects RX4 yX4_takeBack yX4_takeBack ∈ TB := qg Qt13 11 rfl
theorem w_547 : Cond.fieldLink RX9 19 "FortressWatch" "snapshot" "LFortressWatch$Wall;" ∈ TB := qg Qt13 12 rfl
theorem w_556 : Cond.fieldLink RX9 78 "FortressWatch" "hasSnapshot" "Z" ∈ TB := qg Qt13 13 rfl
theorem w_328 : Cond.code yX4_forget cX4_forget 1 none ∈ TB := qg Qt13 14 rfl
theorem w_325 : Cond.methodLink RX9 283 yX4_forget ∈ TB := qg Qt13 15 rfl
theorem w_326 : Cond.instanceMethod yX4_forget ∈ TB := qg Qt13 16 rfl
theorem w_327 : Cond.selects RX4 yX4_forget yX4_forget ∈ TB := qg Qt13 17 rfl
theorem w_1052 : Cond.code yJxf58ca_isNaN_12338 cJxf58ca_isNaN_12338 1 (some .boolean) ∈ TB := qg Qt13 18 rfl
theorem w_1050 : Cond.methodLink RJxf58ca 59 yJxf58ca_isNaN_12338 ∈ TB := qg Qt13 19 rfl
theorem w_1051 : Cond.static yJxf58ca_isNaN_12338 ∈ TB := qg Qt13 20 rfl
theorem w_41 : Cond.initialized RJxf58ca ∈ TB := qg Qt13 21 rfl
theorem w_1056 : Cond.constant RJxf58ca 77 (2143289344) ∈ TB := qg Qt13 22 rfl
theorem w_1053 : Cond.methodLink RJxf58ca 74 ⟨"java/lang/Float", "floatToRawIntBits", "(F)I"⟩ ∈ TB := qg Qt13 23 rfl
theorem w_1055 : Cond.native ⟨"java/lang/Float", "floatToRawIntBits", "(F)I"⟩ ∈ TB := qg Qt13 24 rfl
theorem w_1054 : Cond.static ⟨"java/lang/Float", "floatToRawIntBits", "(F)I"⟩ ∈ TB := qg Qt13 25 rfl
theorem w_269 : Cond.code yX9_account cX9_account 2 (some .int) ∈ TB := qg Qt13 26 rfl
theorem w_266 : Cond.methodLink RL 96 yX9_account ∈ TB := qg Qt13 27 rfl
theorem w_267 : Cond.instanceMethod yX9_account ∈ TB := qg Qt13 28 rfl
theorem w_268 : Cond.selects RX9 yX9_account yX9_account ∈ TB := qg Qt13 29 rfl
def qt14 : List (Nat × Cond) := [(965, Cond.code yX9_postOf cX9_postOf 3 (some .int)), (962, Cond.methodLink RL 99 yX9_postOf), (963, Cond.instanceMethod yX9_postOf), (964, Cond.selects RX9 yX9_postOf yX9_postOf), (1007, Cond.code yX9_fewest cX9_fewest 1 (some .int)), (1004, Cond.methodLink RL 123 yX9_fewest), (1005, Cond.instanceMethod yX9_fewest), (1006, Cond.selects RX9 yX9_fewest yX9_fewest), (1011, Cond.code yX9_fewestAgain cX9_fewestAgain 1 (some .int)), (1008, Cond.methodLink RL 126 yX9_fewestAgain), (1009, Cond.instanceMethod yX9_fewestAgain), (1010, Cond.selects RX9 yX9_fewestAgain yX9_fewestAgain), (1034, Cond.code yX9_isFull cX9_isFull 2 (some .int)), (1031, Cond.methodLink RL 132 yX9_isFull), (1032, Cond.instanceMethod yX9_isFull), (1033, Cond.selects RX9 yX9_isFull yX9_isFull), (1030, Cond.code yX9_watches cX9_watches 1 (some .int)), (1027, Cond.methodLink RL 129 yX9_watches), (1028, Cond.instanceMethod yX9_watches), (1029, Cond.selects RX9 yX9_watches yX9_watches), (223, Cond.code yX9_wouldNeed cX9_wouldNeed 2 (some .int)), (220, Cond.methodLink RL 135 yX9_wouldNeed), (221, Cond.instanceMethod yX9_wouldNeed), (222, Cond.selects RX9 yX9_wouldNeed yX9_wouldNeed), (1035, Cond.methodLink RL 138 yJ6_bitCount_0f7a4), (995, Cond.code yX9_gapOf cX9_gapOf 3 (some .int)), (992, Cond.methodLink RL 115 yX9_gapOf), (993, Cond.instanceMethod yX9_gapOf), (994, Cond.selects RX9 yX9_gapOf yX9_gapOf), (1039, Cond.code yX9_mean cX9_mean 3 (some .int))]
set_option maxRecDepth 20000 in
theorem Qt14 : qt14.all (fun q => decide (lw_tbl[q.1]? = some q.2) && goodWord q.2) = true := by decide +kernel
theorem w_965 : Cond.code yX9_postOf cX9_postOf 3 (some .int) ∈ TB := qg Qt14 0 rfl
theorem w_962 : Cond.methodLink RL 99 yX9_postOf ∈ TB := qg Qt14 1 rfl
theorem w_963 : Cond.instanceMethod yX9_postOf ∈ TB := qg Qt14 2 rfl
theorem w_964 : Cond.selects RX9 yX9_postOf yX9_postOf ∈ TB := qg Qt14 3 rfl
theorem w_1007 : Cond.code yX9_fewest cX9_fewest 1 (some .int) ∈ TB := qg Qt14 4 rfl
theorem w_1004 : Cond.methodLink RL 123 yX9_fewest ∈ TB := qg Qt14 5 rfl
theorem w_1005 : Cond.instanceMethod yX9_fewest ∈ TB := qg Qt14 6 rfl
theorem w_1006 : Cond.selects RX9 yX9_fewest yX9_fewest ∈ TB := qg Qt14 7 rfl
theorem w_1011 : Cond.code yX9_fewestAgain cX9_fewestAgain 1 (some .int) ∈ TB := qg Qt14 8 rfl
theorem w_1008 : Cond.methodLink RL 126 yX9_fewestAgain ∈ TB := qg Qt14 9 rfl
theorem w_1009 : Cond.instanceMethod yX9_fewestAgain ∈ TB := qg Qt14 10 rfl
theorem w_1010 : Cond.selects RX9 yX9_fewestAgain yX9_fewestAgain ∈ TB := qg Qt14 11 rfl
theorem w_1034 : Cond.code yX9_isFull cX9_isFull 2 (some .int) ∈ TB := qg Qt14 12 rfl
theorem w_1031 : Cond.methodLink RL 132 yX9_isFull ∈ TB := qg Qt14 13 rfl
theorem w_1032 : Cond.instanceMethod yX9_isFull ∈ TB := qg Qt14 14 rfl
theorem w_1033 : Cond.selects RX9 yX9_isFull yX9_isFull ∈ TB := qg Qt14 15 rfl
theorem w_1030 : Cond.code yX9_watches cX9_watches 1 (some .int) ∈ TB := qg Qt14 16 rfl
theorem w_1027 : Cond.methodLink RL 129 yX9_watches ∈ TB := qg Qt14 17 rfl
theorem w_1028 : Cond.instanceMethod yX9_watches ∈ TB := qg Qt14 18 rfl
theorem w_1029 : Cond.selects RX9 yX9_watches yX9_watches ∈ TB := qg Qt14 19 rfl
theorem w_223 : Cond.code yX9_wouldNeed cX9_wouldNeed 2 (some .int) ∈ TB := qg Qt14 20 rfl
theorem w_220 : Cond.methodLink RL 135 yX9_wouldNeed ∈ TB := qg Qt14 21 rfl
theorem w_221 : Cond.instanceMethod yX9_wouldNeed ∈ TB := qg Qt14 22 rfl
theorem w_222 : Cond.selects RX9 yX9_wouldNeed yX9_wouldNeed ∈ TB := qg Qt14 23 rfl
theorem w_1035 : Cond.methodLink RL 138 yJ6_bitCount_0f7a4 ∈ TB := qg Qt14 24 rfl
theorem w_995 : Cond.code yX9_gapOf cX9_gapOf 3 (some .int) ∈ TB := qg Qt14 25 rfl
theorem w_992 : Cond.methodLink RL 115 yX9_gapOf ∈ TB := qg Qt14 26 rfl
theorem w_993 : Cond.instanceMethod yX9_gapOf ∈ TB := qg Qt14 27 rfl
theorem w_994 : Cond.selects RX9 yX9_gapOf yX9_gapOf ∈ TB := qg Qt14 28 rfl
theorem w_1039 : Cond.code yX9_mean cX9_mean 3 (some .int) ∈ TB := qg Qt14 29 rfl
def qt15 : List (Nat × Cond) := [(1036, Cond.methodLink RL 143 yX9_mean), (1037, Cond.instanceMethod yX9_mean), (1038, Cond.selects RX9 yX9_mean yX9_mean), (1046, Cond.constantFloat RL 146 (1103101952)), (1049, Cond.code yJxf58ca_floatToIntBits_5c35a cJxf58ca_floatToIntBits_5c35a 1 (some .int)), (1047, Cond.methodLink RL 147 yJxf58ca_floatToIntBits_5c35a), (1048, Cond.static yJxf58ca_floatToIntBits_5c35a), (1060, Cond.code yX9_isWell cX9_isWell 3 (some .int)), (1057, Cond.methodLink RL 153 yX9_isWell), (1058, Cond.instanceMethod yX9_isWell), (1059, Cond.selects RX9 yX9_isWell yX9_isWell), (1003, Cond.methodLink RL 118 Lib.Math.max.name), (991, Cond.code yX9_watched cX9_watched 2 (some .int)), (988, Cond.methodLink RL 112 yX9_watched), (989, Cond.instanceMethod yX9_watched), (990, Cond.selects RX9 yX9_watched yX9_watched), (978, Cond.code yX9_sees cX9_sees 3 (some .int)), (975, Cond.methodLink RL 106 yX9_sees), (976, Cond.instanceMethod yX9_sees), (977, Cond.selects RX9 yX9_sees yX9_sees), (983, Cond.code yX9_seenBy cX9_seenBy 2 (some .int)), (980, Cond.methodLink RL 109 yX9_seenBy), (981, Cond.instanceMethod yX9_seenBy), (982, Cond.selects RX9 yX9_seenBy yX9_seenBy), (974, Cond.code yL_should cL_should 9 (some .boolean)), (972, Cond.methodLink RL 102 yL_should), (973, Cond.static yL_should), (28, Cond.initialized RL)]
set_option maxRecDepth 20000 in
theorem Qt15 : qt15.all (fun q => decide (lw_tbl[q.1]? = some q.2) && goodWord q.2) = true := by decide +kernel
theorem w_1036 : Cond.methodLink RL 143 yX9_mean ∈ TB := qg Qt15 0 rfl
theorem w_1037 : Cond.instanceMethod yX9_mean ∈ TB := qg Qt15 1 rfl
theorem w_1038 : Cond.selects RX9 yX9_mean yX9_mean ∈ TB := qg Qt15 2 rfl
theorem w_1046 : Cond.constantFloat RL 146 (1103101952) ∈ TB := qg Qt15 3 rfl
theorem w_1049 : Cond.code yJxf58ca_floatToIntBits_5c35a cJxf58ca_floatToIntBits_5c35a 1 (some .int) ∈ TB := qg Qt15 4 rfl
theorem w_1047 : Cond.methodLink RL 147 yJxf58ca_floatToIntBits_5c35a ∈ TB := qg Qt15 5 rfl
theorem w_1048 : Cond.static yJxf58ca_floatToIntBits_5c35a ∈ TB := qg Qt15 6 rfl
theorem w_1060 : Cond.code yX9_isWell cX9_isWell 3 (some .int) ∈ TB := qg Qt15 7 rfl
theorem w_1057 : Cond.methodLink RL 153 yX9_isWell ∈ TB := qg Qt15 8 rfl
theorem w_1058 : Cond.instanceMethod yX9_isWell ∈ TB := qg Qt15 9 rfl
theorem w_1059 : Cond.selects RX9 yX9_isWell yX9_isWell ∈ TB := qg Qt15 10 rfl
theorem w_1003 : Cond.methodLink RL 118 Lib.Math.max.name ∈ TB := qg Qt15 11 rfl
theorem w_991 : Cond.code yX9_watched cX9_watched 2 (some .int) ∈ TB := qg Qt15 12 rfl
theorem w_988 : Cond.methodLink RL 112 yX9_watched ∈ TB := qg Qt15 13 rfl
theorem w_989 : Cond.instanceMethod yX9_watched ∈ TB := qg Qt15 14 rfl
theorem w_990 : Cond.selects RX9 yX9_watched yX9_watched ∈ TB := qg Qt15 15 rfl
theorem w_978 : Cond.code yX9_sees cX9_sees 3 (some .int) ∈ TB := qg Qt15 16 rfl
theorem w_975 : Cond.methodLink RL 106 yX9_sees ∈ TB := qg Qt15 17 rfl
theorem w_976 : Cond.instanceMethod yX9_sees ∈ TB := qg Qt15 18 rfl
theorem w_977 : Cond.selects RX9 yX9_sees yX9_sees ∈ TB := qg Qt15 19 rfl
theorem w_983 : Cond.code yX9_seenBy cX9_seenBy 2 (some .int) ∈ TB := qg Qt15 20 rfl
theorem w_980 : Cond.methodLink RL 109 yX9_seenBy ∈ TB := qg Qt15 21 rfl
theorem w_981 : Cond.instanceMethod yX9_seenBy ∈ TB := qg Qt15 22 rfl
theorem w_982 : Cond.selects RX9 yX9_seenBy yX9_seenBy ∈ TB := qg Qt15 23 rfl
theorem w_974 : Cond.code yL_should cL_should 9 (some .boolean) ∈ TB := qg Qt15 24 rfl
theorem w_972 : Cond.methodLink RL 102 yL_should ∈ TB := qg Qt15 25 rfl
theorem w_973 : Cond.static yL_should ∈ TB := qg Qt15 26 rfl
theorem w_28 : Cond.initialized RL ∈ TB := qg Qt15 27 rfl
theorem fX0_18 : Fd8 RX0 18 0 2 := ⟨RX0, TX0, 5, rfl, inX0, tyE0, nmX0, by decide, w_442, rfl⟩
theorem fp0_2 : ∀ C T N', vwCl[0]? = some (C, T, N') → (T 2).2.2.2 = false ∧ parseFieldDescriptor (T 2).2.2.1 = some .int := fun C T N h => by cases h; exact ⟨rfl, by decide +kernel⟩
theorem fX0_22 : Fd8 RX0 22 0 3 := ⟨RX0, TX0, 5, rfl, inX0, tyE0, nmX0, by decide, w_444, rfl⟩
theorem fp0_3 : ∀ C T N', vwCl[0]? = some (C, T, N') → (T 3).2.2.2 = false ∧ parseFieldDescriptor (T 3).2.2.1 = some .int := fun C T N h => by cases h; exact ⟨rfl, by decide +kernel⟩
theorem fX0_25 : Fd8 RX0 25 0 4 := ⟨RX0, TX0, 5, rfl, inX0, tyE0, nmX0, by decide, w_446, rfl⟩
theorem fp0_4 : ∀ C T N', vwCl[0]? = some (C, T, N') → (T 4).2.2.2 = false ∧ parseFieldDescriptor (T 4).2.2.1 = some .int := fun C T N h => by cases h; exact ⟨rfl, by decide +kernel⟩
theorem fX0_28 : Fd8 RX0 28 6 1 := ⟨RX6, TX6, 3, rfl, inX6, tyE6, nmX6, by decide, w_425, rfl⟩
theorem kX0_33 : WV RX0 33 RX0 yX0_fillSets cX0_fillSets 6 none 1 := ⟨w_170, w_166, w_168, w_8, w_33, by decide +kernel⟩
theorem fX0_9 : Fd8 RX0 9 0 0 := ⟨RX0, TX0, 5, rfl, inX0, tyE0, nmX0, by decide, w_440, rfl⟩
theorem kX0_44 : WV RX0 44 RX6 yX6_of cX6_of 2 (some .int) 1 := ⟨w_174, w_171, w_172, w_173, w_32, by decide +kernel⟩
theorem fX6_9 : Fd8 RX6 9 6 0 := ⟨RX6, TX6, 3, rfl, inX6, tyE6, nmX6, by decide, w_423, rfl⟩
theorem kX0_37 : WS RX0 37 yJ6_bitCount_0f7a4 cJ6_bitCount_0f7a4 1 (some .int) 1 := ⟨w_177, w_175, w_176, w_40, by decide +kernel⟩
theorem fX0_15 : Fd8 RX0 15 0 1 := ⟨RX0, TX0, 5, rfl, inX0, tyE0, nmX0, by decide, w_441, rfl⟩
theorem kX0_50 : WS RX0 50 yX0_search cX0_search 9 (some .int) 6 := ⟨w_1019, w_1017, w_1018, w_33, by decide +kernel⟩
theorem kX0_58 : WS RX0 58 yX0_fewestSeers cX0_fewestSeers 6 (some .int) 2 := ⟨w_1025, w_1023, w_1024, w_33, by decide +kernel⟩
theorem kX0_62 : WSN RX0 62 RX9 yX9_isIn cX9_isIn 2 (some .boolean) 2 := ⟨w_192, List.mem_of_getElem? (i := 11) rfl, w_191, w_29, by decide +kernel⟩
theorem kX0_54 : WS RX0 54 yX0_better cX0_better 3 (some .int) 2 := ⟨w_1022, w_1020, w_1021, w_33, by decide +kernel⟩
theorem kX0_47 : WV RX0 47 RX6 yX6_seersOf cX6_seersOf 4 (some .int) 1 := ⟨w_987, w_1016, w_985, w_986, w_32, by decide +kernel⟩
theorem fX1_18 : Fd8 RX1 18 1 2 := ⟨RX1, TX1, 3, rfl, inX1, tyE1, nmX1, by decide, w_466, rfl⟩
theorem fp1_2 : ∀ C T N', vwCl[1]? = some (C, T, N') → (T 2).2.2.2 = false ∧ parseFieldDescriptor (T 2).2.2.1 = some .int := fun C T N h => by cases h; exact ⟨rfl, by decide +kernel⟩
theorem kX1_26 : WSN RX1 26 RX9 yX9_turned cX9_turned 2 (some .int) 2 := ⟨w_230, List.mem_of_getElem? (i := 2) rfl, w_229, w_29, by decide +kernel⟩
theorem kX1_30 : WSN RX1 30 RX9 yX9_isIn cX9_isIn 2 (some .boolean) 2 := ⟨w_192, List.mem_of_getElem? (i := 3) rfl, w_191, w_29, by decide +kernel⟩
theorem kX1_34 : WS RX1 34 yX1_openFrom cX1_openFrom 4 (some .int) 2 := ⟨w_291, w_289, w_290, w_34, by decide +kernel⟩
theorem kX1_22 : WV RX1 22 RX1 yX1_add cX1_add 3 none 2 := ⟨w_286, w_282, w_284, w_14, w_34, by decide +kernel⟩
theorem fX1_9 : Fd8 RX1 9 1 0 := ⟨RX1, TX1, 3, rfl, inX1, tyE1, nmX1, by decide, w_464, rfl⟩
theorem fX1_15 : Fd8 RX1 15 1 1 := ⟨RX1, TX1, 3, rfl, inX1, tyE1, nmX1, by decide, w_465, rfl⟩
theorem kX1_37 : WV RX1 37 RX1 yX1_isGap cX1_isGap 2 (some .boolean) 1 := ⟨w_307, w_304, w_305, w_306, w_34, by decide +kernel⟩
theorem kX1_41 : WV RX1 41 RX1 yX1_lengthOf cX1_lengthOf 2 (some .int) 1 := ⟨w_303, w_300, w_301, w_302, w_34, by decide +kernel⟩
theorem fX3_9 : Fd8 RX3 9 3 0 := ⟨RX3, TX3, 1, rfl, inX3, tyE3, nmX3, by decide, w_480, rfl⟩
theorem kX3_15 : WV RX3 15 RX3 yX3_placeOf cX3_placeOf 5 (some .int) 2 := ⟨w_265, w_261, w_263, w_12, w_35, by decide +kernel⟩
theorem fX4_11 : Fd8 RX4 11 4 0 := ⟨RX4, TX4, 3, rfl, inX4, tyE4, nmX4, by decide, w_406, rfl⟩
theorem fX4_18 : Fd8 RX4 18 4 1 := ⟨RX4, TX4, 3, rfl, inX4, tyE4, nmX4, by decide, w_407, rfl⟩
theorem kX4_22 : WV RX4 22 RX8 yX8_copyFrom cX8_copyFrom 3 none 1 := ⟨w_58, w_100, w_56, w_57, w_30, by decide +kernel⟩
theorem fX8_38 : Fd8 RX8 38 8 6 := ⟨RX8, TX8, 11, rfl, inX8, tyE8, nmX8, by decide, w_366, rfl⟩
theorem fp8_6 : ∀ C T N', vwCl[8]? = some (C, T, N') → (T 6).2.2.2 = false ∧ parseFieldDescriptor (T 6).2.2.1 = some .int := fun C T N h => by cases h; exact ⟨rfl, by decide +kernel⟩
theorem fX8_42 : Fd8 RX8 42 8 7 := ⟨RX8, TX8, 11, rfl, inX8, tyE8, nmX8, by decide, w_368, rfl⟩
theorem fp8_7 : ∀ C T N', vwCl[8]? = some (C, T, N') → (T 7).2.2.2 = false ∧ parseFieldDescriptor (T 7).2.2.1 = some .int := fun C T N h => by cases h; exact ⟨rfl, by decide +kernel⟩
theorem fX8_45 : Fd8 RX8 45 8 8 := ⟨RX8, TX8, 11, rfl, inX8, tyE8, nmX8, by decide, w_370, rfl⟩
theorem fp8_8 : ∀ C T N', vwCl[8]? = some (C, T, N') → (T 8).2.2.2 = false ∧ parseFieldDescriptor (T 8).2.2.1 = some .int := fun C T N h => by cases h; exact ⟨rfl, by decide +kernel⟩
theorem fX8_48 : Fd8 RX8 48 8 9 := ⟨RX8, TX8, 11, rfl, inX8, tyE8, nmX8, by decide, w_371, rfl⟩
theorem fp8_9 : ∀ C T N', vwCl[8]? = some (C, T, N') → (T 9).2.2.2 = false ∧ parseFieldDescriptor (T 9).2.2.1 = some .int := fun C T N h => by cases h; exact ⟨rfl, by decide +kernel⟩
theorem fX8_51 : Fd8 RX8 51 8 10 := ⟨RX8, TX8, 11, rfl, inX8, tyE8, nmX8, by decide, w_372, rfl⟩
theorem fp8_10 : ∀ C T N', vwCl[8]? = some (C, T, N') → (T 10).2.2.2 = false ∧ parseFieldDescriptor (T 10).2.2.1 = some .int := fun C T N h => by cases h; exact ⟨rfl, by decide +kernel⟩
theorem kX8_34 : WV RX8 34 RX8 yX8_copyPlace cX8_copyPlace 4 none 3 := ⟨w_63, w_59, w_61, w_0, w_30, by decide +kernel⟩
theorem fX8_9 : Fd8 RX8 9 8 0 := ⟨RX8, TX8, 11, rfl, inX8, tyE8, nmX8, by decide, w_353, rfl⟩
theorem fX8_15 : Fd8 RX8 15 8 1 := ⟨RX8, TX8, 11, rfl, inX8, tyE8, nmX8, by decide, w_354, rfl⟩
theorem fX8_18 : Fd8 RX8 18 8 2 := ⟨RX8, TX8, 11, rfl, inX8, tyE8, nmX8, by decide, w_356, rfl⟩
theorem fX8_21 : Fd8 RX8 21 8 3 := ⟨RX8, TX8, 11, rfl, inX8, tyE8, nmX8, by decide, w_358, rfl⟩
theorem fX8_24 : Fd8 RX8 24 8 4 := ⟨RX8, TX8, 11, rfl, inX8, tyE8, nmX8, by decide, w_360, rfl⟩
theorem fX8_27 : Fd8 RX8 27 8 5 := ⟨RX8, TX8, 11, rfl, inX8, tyE8, nmX8, by decide, w_362, rfl⟩
theorem fp4_1 : ∀ C T N', vwCl[4]? = some (C, T, N') → (T 1).2.2.2 = false ∧ parseFieldDescriptor (T 1).2.2.1 = some .int := fun C T N h => by cases h; exact ⟨rfl, by decide +kernel⟩
theorem fX4_26 : Fd8 RX4 26 4 2 := ⟨RX4, TX4, 3, rfl, inX4, tyE4, nmX4, by decide, w_408, rfl⟩
theorem fp4_2 : ∀ C T N', vwCl[4]? = some (C, T, N') → (T 2).2.2.2 = false ∧ parseFieldDescriptor (T 2).2.2.1 = some .int := fun C T N h => by cases h; exact ⟨rfl, by decide +kernel⟩
theorem fX5_9 : Fd8 RX5 9 5 0 := ⟨RX5, TX5, 3, rfl, inX5, tyE5, nmX5, by decide, w_535, rfl⟩
theorem fp5_0 : ∀ C T N', vwCl[5]? = some (C, T, N') → (T 0).2.2.2 = false ∧ parseFieldDescriptor (T 0).2.2.1 = some .int := fun C T N h => by cases h; exact ⟨rfl, by decide +kernel⟩
theorem fX5_15 : Fd8 RX5 15 5 1 := ⟨RX5, TX5, 3, rfl, inX5, tyE5, nmX5, by decide, w_536, rfl⟩
theorem fp5_1 : ∀ C T N', vwCl[5]? = some (C, T, N') → (T 1).2.2.2 = false ∧ parseFieldDescriptor (T 1).2.2.1 = some .int := fun C T N h => by cases h; exact ⟨rfl, by decide +kernel⟩
theorem fX5_18 : Fd8 RX5 18 5 2 := ⟨RX5, TX5, 3, rfl, inX5, tyE5, nmX5, by decide, w_537, rfl⟩
theorem fp5_2 : ∀ C T N', vwCl[5]? = some (C, T, N') → (T 2).2.2.2 = false ∧ parseFieldDescriptor (T 2).2.2.1 = some .int := fun C T N h => by cases h; exact ⟨rfl, by decide +kernel⟩
theorem fX6_15 : Fd8 RX6 15 8 6 := ⟨RX8, TX8, 11, rfl, inX8, tyE8, nmX8, by decide, w_365, rfl⟩
theorem fX6_21 : Fd8 RX6 21 6 1 := ⟨RX6, TX6, 3, rfl, inX6, tyE6, nmX6, by decide, w_424, rfl⟩
theorem fp6_1 : ∀ C T N', vwCl[6]? = some (C, T, N') → (T 1).2.2.2 = false ∧ parseFieldDescriptor (T 1).2.2.1 = some .int := fun C T N h => by cases h; exact ⟨rfl, by decide +kernel⟩
theorem fX6_22 : Fd8 RX6 22 6 2 := ⟨RX6, TX6, 3, rfl, inX6, tyE6, nmX6, by decide, w_426, rfl⟩
theorem fp6_2 : ∀ C T N', vwCl[6]? = some (C, T, N') → (T 2).2.2.2 = false ∧ parseFieldDescriptor (T 2).2.2.1 = some .int := fun C T N h => by cases h; exact ⟨rfl, by decide +kernel⟩
theorem kX6_25 : WV RX6 25 RX8 yX8_sightOf cX8_sightOf 8 (some .int) 2 := ⟨w_150, w_147, w_148, w_149, w_30, by decide +kernel⟩
theorem kX8_58 : WV RX8 58 RX8 yX8_isPost cX8_isPost 2 (some .boolean) 1 := ⟨w_115, w_151, w_113, w_114, w_30, by decide +kernel⟩
theorem kX8_62 : WS RX8 62 yX8_lostByLight cX8_lostByLight 1 (some .int) 1 := ⟨w_154, w_152, w_153, w_30, by decide +kernel⟩
theorem kX8_71 : WSN RX8 71 RX9 yX9_stretch cX9_stretch 4 (some .int) 2 := ⟨w_160, List.mem_of_getElem? (i := 0) rfl, w_159, w_29, by decide +kernel⟩
theorem fX6_29 : Fd8 RX6 29 8 5 := ⟨RX8, TX8, 11, rfl, inX8, tyE8, nmX8, by decide, w_363, rfl⟩
theorem kX6_31 : WV RX6 31 RX6 yX6_of cX6_of 2 (some .int) 1 := ⟨w_174, w_243, w_172, w_173, w_32, by decide +kernel⟩
theorem kX6_35 : WS RX6 35 yJ6_bitCount_0f7a4 cJ6_bitCount_0f7a4 1 (some .int) 1 := ⟨w_177, w_215, w_176, w_40, by decide +kernel⟩
theorem kX6_40 : WV RX6 40 RX6 yX6_seenBySet cX6_seenBySet 4 (some .int) 1 := ⟨w_189, w_252, w_187, w_188, w_32, by decide +kernel⟩
theorem kX6_43 : WSN RX6 43 RX9 yX9_isIn cX9_isIn 2 (some .boolean) 2 := ⟨w_192, List.mem_of_getElem? (i := 1) rfl, w_191, w_29, by decide +kernel⟩
theorem fX7_15 : Fd8 RX7 15 7 2 := ⟨RX7, TX7, 7, rfl, inX7, tyE7, nmX7, by decide, w_492, rfl⟩
theorem fX7_9 : Fd8 RX7 9 7 0 := ⟨RX7, TX7, 7, rfl, inX7, tyE7, nmX7, by decide, w_490, rfl⟩
theorem fp7_2 : ∀ C T N', vwCl[7]? = some (C, T, N') → (T 2).2.2.2 = false ∧ parseFieldDescriptor (T 2).2.2.1 = some .int := fun C T N h => by cases h; exact ⟨rfl, by decide +kernel⟩
theorem fX7_19 : Fd8 RX7 19 7 1 := ⟨RX7, TX7, 7, rfl, inX7, tyE7, nmX7, by decide, w_491, rfl⟩
theorem fp7_1 : ∀ C T N', vwCl[7]? = some (C, T, N') → (T 1).2.2.2 = false ∧ parseFieldDescriptor (T 1).2.2.1 = some .int := fun C T N h => by cases h; exact ⟨rfl, by decide +kernel⟩
theorem kX7_22 : WV RX7 22 RX7 yX7_rewind cX7_rewind 1 none 0 := ⟨w_915, w_912, w_913, w_914, w_36, by decide +kernel⟩
theorem kX7_25 : WV RX7 25 RX7 yX7_takeCommand cX7_takeCommand 1 (some .boolean) 0 := ⟨w_919, w_916, w_917, w_918, w_36, by decide +kernel⟩
theorem kX7_33 : WV RX7 33 RX7 yX7_codeHere cX7_codeHere 1 (some .int) 0 := ⟨w_923, w_920, w_922, w_21, w_36, by decide +kernel⟩
theorem fX7_37 : Fd8 RX7 37 7 3 := ⟨RX7, TX7, 7, rfl, inX7, tyE7, nmX7, by decide, w_494, rfl⟩
theorem fp7_3 : ∀ C T N', vwCl[7]? = some (C, T, N') → (T 3).2.2.2 = false ∧ parseFieldDescriptor (T 3).2.2.1 = some .int := fun C T N h => by cases h; exact ⟨rfl, by decide +kernel⟩
theorem kX7_29 : WV RX7 29 RX7 yX7_skip cX7_skip 2 (some .boolean) 1 := ⟨w_927, w_924, w_925, w_926, w_36, by decide +kernel⟩
theorem kX7_40 : WV RX7 40 RX7 yX7_takeFirst cX7_takeFirst 2 (some .boolean) 1 := ⟨w_931, w_928, w_930, w_22, w_36, by decide +kernel⟩
theorem kX7_49 : WV RX7 49 RX7 yX7_takeNumber cX7_takeNumber 5 (some .int) 1 := ⟨w_935, w_932, w_934, w_23, w_36, by decide +kernel⟩
theorem fX7_53 : Fd8 RX7 53 7 4 := ⟨RX7, TX7, 7, rfl, inX7, tyE7, nmX7, by decide, w_496, rfl⟩
theorem fp7_4 : ∀ C T N', vwCl[7]? = some (C, T, N') → (T 4).2.2.2 = false ∧ parseFieldDescriptor (T 4).2.2.1 = some .int := fun C T N h => by cases h; exact ⟨rfl, by decide +kernel⟩
theorem kX7_43 : WV RX7 43 RX7 yX7_takeSecond cX7_takeSecond 2 (some .boolean) 1 := ⟨w_939, w_936, w_938, w_24, w_36, by decide +kernel⟩
theorem fX7_56 : Fd8 RX7 56 7 5 := ⟨RX7, TX7, 7, rfl, inX7, tyE7, nmX7, by decide, w_498, rfl⟩
theorem fp7_5 : ∀ C T N', vwCl[7]? = some (C, T, N') → (T 5).2.2.2 = false ∧ parseFieldDescriptor (T 5).2.2.1 = some .int := fun C T N h => by cases h; exact ⟨rfl, by decide +kernel⟩
theorem kX7_46 : WV RX7 46 RX7 yX7_takeThird cX7_takeThird 2 (some .boolean) 1 := ⟨w_943, w_940, w_942, w_25, w_36, by decide +kernel⟩
theorem fX7_59 : Fd8 RX7 59 7 6 := ⟨RX7, TX7, 7, rfl, inX7, tyE7, nmX7, by decide, w_500, rfl⟩
theorem fp7_6 : ∀ C T N', vwCl[7]? = some (C, T, N') → (T 6).2.2.2 = false ∧ parseFieldDescriptor (T 6).2.2.1 = some .int := fun C T N h => by cases h; exact ⟨rfl, by decide +kernel⟩
theorem kX8_54 : WV RX8 54 RX8 yX8_postOn cX8_postOn 3 (some .int) 1 := ⟨w_78, w_91, w_76, w_77, w_30, by decide +kernel⟩
theorem kX8_30 : WV RX8 30 RX8 yX8_empty cX8_empty 2 none 1 := ⟨w_123, w_120, w_122, w_5, w_30, by decide +kernel⟩
theorem fX9_16 : Fd8 RX9 16 9 1 := ⟨RX9, TX9, 13, rfl, inX9, tyE9, nmX9, by decide, w_546, rfl⟩
theorem fX9_10 : Fd8 RX9 10 9 0 := ⟨RX9, TX9, 13, rfl, inX9, tyE9, nmX9, by decide, w_545, rfl⟩
theorem kX9_86 : WV RX9 86 RX8 yX8_copyFrom cX8_copyFrom 3 none 1 := ⟨w_58, w_55, w_56, w_57, w_30, by decide +kernel⟩
theorem kX9_90 : WV RX9 90 RX9 yX9_buildPost cX9_buildPost 5 (some .int) 3 := ⟨w_68, w_64, w_66, w_1, w_29, by decide +kernel⟩
theorem kX9_154 : WS RX9 154 yX9_isStone cX9_isStone 1 (some .boolean) 1 := ⟨w_71, w_69, w_70, w_29, by decide +kernel⟩
theorem kX9_293 : WS RX9 293 yX9_isReach cX9_isReach 1 (some .boolean) 1 := ⟨w_74, w_72, w_73, w_29, by decide +kernel⟩
theorem kX9_296 : WV RX9 296 RX8 yX8_postOn cX8_postOn 3 (some .int) 1 := ⟨w_78, w_75, w_76, w_77, w_30, by decide +kernel⟩
theorem fX9_203 : Fd8 RX9 203 8 6 := ⟨RX8, TX8, 11, rfl, inX8, tyE8, nmX8, by decide, w_367, rfl⟩
theorem kX9_302 : WV RX9 302 RX8 yX8_add cX8_add 5 (some .int) 3 := ⟨w_90, w_87, w_88, w_89, w_30, by decide +kernel⟩
theorem kX9_299 : WV RX9 299 RX9 yX9_refuse cX9_refuse 3 (some .int) 2 := ⟨w_82, w_79, w_81, w_2, w_29, by decide +kernel⟩
theorem fX9_74 : Fd8 RX9 74 9 10 := ⟨RX9, TX9, 13, rfl, inX9, tyE9, nmX9, by decide, w_555, rfl⟩
theorem fX9_82 : Fd8 RX9 82 9 12 := ⟨RX9, TX9, 13, rfl, inX9, tyE9, nmX9, by decide, w_557, rfl⟩
theorem kX9_289 : WV RX9 289 RX5 yX5_tell cX5_tell 4 none 3 := ⟨w_86, w_83, w_84, w_85, w_38, by decide +kernel⟩
theorem kX9_94 : WV RX9 94 RX9 yX9_kept cX9_kept 2 (some .int) 1 := ⟨w_95, w_92, w_94, w_3, w_29, by decide +kernel⟩
theorem fX9_25 : Fd8 RX9 25 9 3 := ⟨RX9, TX9, 13, rfl, inX9, tyE9, nmX9, by decide, w_548, rfl⟩
theorem kX9_286 : WV RX9 286 RX4 yX4_keep cX4_keep 3 none 1 := ⟨w_99, w_96, w_97, w_98, w_31, by decide +kernel⟩
theorem kX9_98 : WV RX9 98 RX9 yX9_tearDown cX9_tearDown 2 (some .int) 1 := ⟨w_111, w_108, w_110, w_4, w_29, by decide +kernel⟩
theorem kX9_127 : WV RX9 127 RX8 yX8_isPost cX8_isPost 2 (some .boolean) 1 := ⟨w_115, w_112, w_113, w_114, w_30, by decide +kernel⟩
theorem kX9_305 : WV RX9 305 RX8 yX8_remove cX8_remove 3 none 1 := ⟨w_119, w_116, w_117, w_118, w_30, by decide +kernel⟩
theorem kX9_101 : WV RX9 101 RX9 yX9_tellReaches cX9_tellReaches 6 (some .int) 3 := ⟨w_620, w_617, w_619, w_19, w_29, by decide +kernel⟩
theorem fX9_308 : Fd8 RX9 308 8 1 := ⟨RX8, TX8, 11, rfl, inX8, tyE8, nmX8, by decide, w_355, rfl⟩
theorem fX9_312 : Fd8 RX9 312 8 2 := ⟨RX8, TX8, 11, rfl, inX8, tyE8, nmX8, by decide, w_357, rfl⟩
theorem kX9_104 : WV RX9 104 RX9 yX9_tellBlindAngle cX9_tellBlindAngle 4 (some .int) 3 := ⟨w_604, w_601, w_603, w_17, w_29, by decide +kernel⟩
theorem fX9_315 : Fd8 RX9 315 8 3 := ⟨RX8, TX8, 11, rfl, inX8, tyE8, nmX8, by decide, w_359, rfl⟩
theorem fX9_318 : Fd8 RX9 318 8 4 := ⟨RX8, TX8, 11, rfl, inX8, tyE8, nmX8, by decide, w_361, rfl⟩
theorem kX9_107 : WV RX9 107 RX9 yX9_manySeenNow cX9_manySeenNow 2 (some .int) 1 := ⟨w_608, w_605, w_607, w_18, w_29, by decide +kernel⟩
theorem fX9_32 : Fd8 RX9 32 9 4 := ⟨RX9, TX9, 13, rfl, inX9, tyE9, nmX9, by decide, w_549, rfl⟩
theorem fX9_134 : Fd8 RX9 134 8 7 := ⟨RX8, TX8, 11, rfl, inX8, tyE8, nmX8, by decide, w_369, rfl⟩
theorem kX9_137 : WV RX9 137 RX6 yX6_lookAt cX6_lookAt 4 none 2 := ⟨w_146, w_143, w_144, w_145, w_32, by decide +kernel⟩
theorem kX9_141 : WV RX9 141 RX6 yX6_manySeen cX6_manySeen 2 (some .int) 1 := ⟨w_242, w_239, w_240, w_241, w_32, by decide +kernel⟩
theorem kX9_110 : WV RX9 110 RX9 yX9_dropBlindAngle cX9_dropBlindAngle 2 (some .int) 1 := ⟨w_628, w_625, w_627, w_20, w_29, by decide +kernel⟩
theorem kX9_113 : WV RX9 113 RX9 yX9_letBeManned cX9_letBeManned 3 (some .int) 2 := ⟨w_592, w_589, w_591, w_15, w_29, by decide +kernel⟩
theorem fX9_321 : Fd8 RX9 321 8 5 := ⟨RX8, TX8, 11, rfl, inX8, tyE8, nmX8, by decide, w_364, rfl⟩
theorem kX9_117 : WV RX9 117 RX9 yX9_manyWatchedNow cX9_manyWatchedNow 1 (some .int) 0 := ⟨w_596, w_593, w_595, w_16, w_29, by decide +kernel⟩
theorem fX9_163 : Fd8 RX9 163 6 2 := ⟨RX6, TX6, 3, rfl, inX6, tyE6, nmX6, by decide, w_427, rfl⟩
theorem kX9_171 : WV RX9 171 RX6 yX6_seenBySet cX6_seenBySet 4 (some .int) 1 := ⟨w_189, w_186, w_187, w_188, w_32, by decide +kernel⟩
theorem kX9_166 : WS RX9 166 yJ6_bitCount_0f7a4 cJ6_bitCount_0f7a4 1 (some .int) 1 := ⟨w_177, w_193, w_176, w_40, by decide +kernel⟩
theorem kX9_121 : WV RX9 121 RX9 yX9_tellHour cX9_tellHour 3 (some .int) 1 := ⟨w_131, w_128, w_130, w_6, w_29, by decide +kernel⟩
theorem kX9_210 : WS RX9 210 yX9_isHour cX9_isHour 1 (some .boolean) 1 := ⟨w_134, w_132, w_133, w_29, by decide +kernel⟩
theorem kX9_124 : WV RX9 124 RX9 yX9_manFewest cX9_manFewest 1 (some .int) 0 := ⟨w_142, w_139, w_141, w_7, w_29, by decide +kernel⟩
theorem fX9_39 : Fd8 RX9 39 9 5 := ⟨RX9, TX9, 13, rfl, inX9, tyE9, nmX9, by decide, w_550, rfl⟩
theorem kX9_147 : WV RX9 147 RX0 yX0_trySets cX0_trySets 6 none 1 := ⟨w_165, w_162, w_163, w_164, w_33, by decide +kernel⟩
theorem fX9_193 : Fd8 RX9 193 0 2 := ⟨RX0, TX0, 5, rfl, inX0, tyE0, nmX0, by decide, w_443, rfl⟩
theorem kX9_326 : WV RX9 326 RX8 yX8_manJust cX8_manJust 3 none 1 := ⟨w_197, w_194, w_195, w_196, w_30, by decide +kernel⟩
theorem kX9_323 : WV RX9 323 RX9 yX9_manyUnseen cX9_manyUnseen 1 (some .int) 0 := ⟨w_185, w_182, w_184, w_9, w_29, by decide +kernel⟩
theorem fX9_151 : Fd8 RX9 151 0 4 := ⟨RX0, TX0, 5, rfl, inX0, tyE0, nmX0, by decide, w_447, rfl⟩
theorem kX9_144 : WV RX9 144 RX6 yX6_manySeenAlone cX6_manySeenAlone 2 (some .int) 1 := ⟨w_251, w_248, w_249, w_250, w_32, by decide +kernel⟩
theorem kX9_131 : WV RX9 131 RX8 yX8_numberOf cX8_numberOf 3 (some .int) 2 := ⟨w_247, w_244, w_245, w_246, w_30, by decide +kernel⟩
theorem kX9_157 : WV RX9 157 RX6 yX6_of cX6_of 2 (some .int) 1 := ⟨w_174, w_979, w_172, w_173, w_32, by decide +kernel⟩
theorem kX9_160 : WV RX9 160 RX6 yX6_seersOf cX6_seersOf 4 (some .int) 1 := ⟨w_987, w_984, w_985, w_986, w_32, by decide +kernel⟩
theorem fX9_46 : Fd8 RX9 46 9 6 := ⟨RX9, TX9, 13, rfl, inX9, tyE9, nmX9, by decide, w_551, rfl⟩
theorem kX9_174 : WV RX9 174 RX1 yX1_find cX1_find 4 none 1 := ⟨w_281, w_278, w_279, w_280, w_34, by decide +kernel⟩
theorem kX9_178 : WV RX9 178 RX1 yX1_isGap cX1_isGap 2 (some .boolean) 1 := ⟨w_307, w_996, w_305, w_306, w_34, by decide +kernel⟩
theorem kX9_181 : WV RX9 181 RX1 yX1_firstOf cX1_firstOf 2 (some .int) 1 := ⟨w_1000, w_997, w_998, w_999, w_34, by decide +kernel⟩
theorem kX9_184 : WV RX9 184 RX1 yX1_lengthOf cX1_lengthOf 2 (some .int) 1 := ⟨w_303, w_1001, w_301, w_302, w_34, by decide +kernel⟩
theorem kX9_187 : WS RX9 187 yX9_stretch cX9_stretch 4 (some .int) 2 := ⟨w_160, w_1002, w_159, w_29, by decide +kernel⟩
theorem kX9_190 : WV RX9 190 RX6 yX6_bestAmong cX6_bestAmong 7 (some .int) 2 := ⟨w_214, w_211, w_212, w_213, w_32, by decide +kernel⟩
theorem kX9_196 : WV RX9 196 RX0 yX0_searchStones cX0_searchStones 3 (some .int) 1 := ⟨w_1015, w_1012, w_1013, w_1014, w_33, by decide +kernel⟩
theorem fX9_200 : Fd8 RX9 200 0 3 := ⟨RX0, TX0, 5, rfl, inX0, tyE0, nmX0, by decide, w_445, rfl⟩
theorem kX9_207 : WV RX9 207 RX9 yX9_closingMost cX9_closingMost 3 (some .int) 1 := ⟨w_209, w_206, w_208, w_10, w_29, by decide +kernel⟩
theorem kX9_213 : WS RX9 213 yX9_turned cX9_turned 2 (some .int) 2 := ⟨w_230, w_228, w_229, w_29, by decide +kernel⟩
theorem fX9_53 : Fd8 RX9 53 9 7 := ⟨RX9, TX9, 13, rfl, inX9, tyE9, nmX9, by decide, w_552, rfl⟩
theorem kX9_223 : WV RX9 223 RX3 yX3_at cX3_at 4 (some .int) 2 := ⟨w_260, w_257, w_258, w_259, w_35, by decide +kernel⟩
theorem kX9_216 : WV RX9 216 RX9 yX9_keyOf cX9_keyOf 3 (some .int) 2 := ⟨w_238, w_235, w_237, w_11, w_29, by decide +kernel⟩
theorem kX9_219 : WV RX9 219 RX3 yX3_giveKey cX3_giveKey 3 none 2 := ⟨w_256, w_253, w_254, w_255, w_35, by decide +kernel⟩
theorem fX9_60 : Fd8 RX9 60 9 8 := ⟨RX9, TX9, 13, rfl, inX9, tyE9, nmX9, by decide, w_553, rfl⟩
theorem kX9_247 : WV RX9 247 RX7 yX7_put cX7_put 2 (some .int) 1 := ⟨w_903, w_900, w_901, w_902, w_36, by decide +kernel⟩
theorem kX9_249 : WV RX9 249 RX7 yX7_findFault cX7_findFault 2 (some .int) 0 := ⟨w_911, w_908, w_909, w_910, w_36, by decide +kernel⟩
theorem kX9_253 : WV RX9 253 RX9 yX9_carryOutAll cX9_carryOutAll 4 (some .int) 0 := ⟨w_951, w_948, w_950, w_26, w_29, by decide +kernel⟩
theorem kX9_329 : WV RX9 329 RX7 yX7_rewind cX7_rewind 1 none 0 := ⟨w_915, w_952, w_913, w_914, w_36, by decide +kernel⟩
theorem kX9_332 : WV RX9 332 RX7 yX7_takeCommand cX7_takeCommand 1 (some .boolean) 0 := ⟨w_919, w_953, w_917, w_918, w_36, by decide +kernel⟩
theorem fp9_12 : ∀ C T N', vwCl[9]? = some (C, T, N') → (T 12).2.2.2 = false ∧ parseFieldDescriptor (T 12).2.2.1 = some .int := fun C T N h => by cases h; exact ⟨rfl, by decide +kernel⟩
theorem kX9_336 : WV RX9 336 RX9 yX9_carryOut cX9_carryOut 1 (some .int) 0 := ⟨w_957, w_954, w_956, w_27, w_29, by decide +kernel⟩
theorem fX9_342 : Fd8 RX9 342 7 3 := ⟨RX7, TX7, 7, rfl, inX7, tyE7, nmX7, by decide, w_495, rfl⟩
theorem fX9_345 : Fd8 RX9 345 7 4 := ⟨RX7, TX7, 7, rfl, inX7, tyE7, nmX7, by decide, w_497, rfl⟩
theorem fX9_348 : Fd8 RX9 348 7 5 := ⟨RX7, TX7, 7, rfl, inX7, tyE7, nmX7, by decide, w_499, rfl⟩
theorem fX9_351 : Fd8 RX9 351 7 6 := ⟨RX7, TX7, 7, rfl, inX7, tyE7, nmX7, by decide, w_501, rfl⟩
theorem kX9_339 : WV RX9 339 RX7 yX7_skip cX7_skip 2 (some .boolean) 1 := ⟨w_927, w_958, w_925, w_926, w_36, by decide +kernel⟩
theorem kX9_252 : WV RX9 252 RX7 yX7_clear cX7_clear 1 none 0 := ⟨w_947, w_944, w_945, w_946, w_36, by decide +kernel⟩
theorem kX9_265 : WV RX9 265 RX9 yX9_sightAccount cX9_sightAccount 3 (some .int) 1 := ⟨w_277, w_274, w_276, w_13, w_29, by decide +kernel⟩
theorem kX9_354 : WV RX9 354 RX6 yX6_overlaps cX6_overlaps 4 (some .int) 0 := ⟨w_295, w_292, w_293, w_294, w_32, by decide +kernel⟩
theorem fX9_357 : Fd8 RX9 357 1 2 := ⟨RX1, TX1, 3, rfl, inX1, tyE1, nmX1, by decide, w_467, rfl⟩
theorem kX9_358 : WV RX9 358 RX1 yX1_longest cX1_longest 3 (some .int) 0 := ⟨w_299, w_296, w_297, w_298, w_34, by decide +kernel⟩
theorem kX9_262 : WV RX9 262 RX8 yX8_accountOf cX8_accountOf 2 (some .int) 1 := ⟨w_273, w_270, w_271, w_272, w_30, by decide +kernel⟩
theorem fX9_259 : Fd8 RX9 259 4 2 := ⟨RX4, TX4, 3, rfl, inX4, tyE4, nmX4, by decide, w_409, rfl⟩
theorem fX9_258 : Fd8 RX9 258 7 2 := ⟨RX7, TX7, 7, rfl, inX7, tyE7, nmX7, by decide, w_493, rfl⟩
theorem kX9_268 : WV RX9 268 RX1 yX1_lengthOfAll cX1_lengthOfAll 3 (some .int) 0 := ⟨w_1064, w_1061, w_1062, w_1063, w_34, by decide +kernel⟩
theorem kX9_276 : WS RX9 276 yX9_bitsOf cX9_bitsOf 4 (some .int) 1 := ⟨w_1044, w_1042, w_1043, w_29, by decide +kernel⟩
theorem kX9_271 : WS RX9 271 yX9_isIn cX9_isIn 2 (some .boolean) 2 := ⟨w_192, w_1040, w_191, w_29, by decide +kernel⟩
theorem kX9_280 : WV RX9 280 RX4 yX4_takeBack cX4_takeBack 3 none 1 := ⟨w_316, w_313, w_314, w_315, w_31, by decide +kernel⟩
theorem fX9_19 : Fd8 RX9 19 9 2 := ⟨RX9, TX9, 13, rfl, inX9, tyE9, nmX9, by decide, w_547, rfl⟩
theorem fX9_78 : Fd8 RX9 78 9 11 := ⟨RX9, TX9, 13, rfl, inX9, tyE9, nmX9, by decide, w_556, rfl⟩
theorem fp9_11 : ∀ C T N', vwCl[9]? = some (C, T, N') → (T 11).2.2.2 = false ∧ parseFieldDescriptor (T 11).2.2.1 = some .boolean := fun C T N h => by cases h; exact ⟨rfl, by decide +kernel⟩
theorem kX9_283 : WV RX9 283 RX4 yX4_forget cX4_forget 1 none 0 := ⟨w_328, w_325, w_326, w_327, w_31, by decide +kernel⟩
theorem kJxf58ca_59 : WS RJxf58ca 59 yJxf58ca_isNaN_12338 cJxf58ca_isNaN_12338 1 (some .boolean) 1 := ⟨w_1052, w_1050, w_1051, w_41, by decide +kernel⟩
theorem kL_96 : WV RL 96 RX9 yX9_account cX9_account 2 (some .int) 1 := ⟨w_269, w_266, w_267, w_268, w_29, by decide +kernel⟩
theorem kL_99 : WV RL 99 RX9 yX9_postOf cX9_postOf 3 (some .int) 2 := ⟨w_965, w_962, w_963, w_964, w_29, by decide +kernel⟩
theorem kL_123 : WV RL 123 RX9 yX9_fewest cX9_fewest 1 (some .int) 0 := ⟨w_1007, w_1004, w_1005, w_1006, w_29, by decide +kernel⟩
theorem kL_126 : WV RL 126 RX9 yX9_fewestAgain cX9_fewestAgain 1 (some .int) 0 := ⟨w_1011, w_1008, w_1009, w_1010, w_29, by decide +kernel⟩
theorem kL_132 : WV RL 132 RX9 yX9_isFull cX9_isFull 2 (some .int) 1 := ⟨w_1034, w_1031, w_1032, w_1033, w_29, by decide +kernel⟩
theorem kL_129 : WV RL 129 RX9 yX9_watches cX9_watches 1 (some .int) 0 := ⟨w_1030, w_1027, w_1028, w_1029, w_29, by decide +kernel⟩
theorem kL_135 : WV RL 135 RX9 yX9_wouldNeed cX9_wouldNeed 2 (some .int) 1 := ⟨w_223, w_220, w_221, w_222, w_29, by decide +kernel⟩
theorem kL_138 : WS RL 138 yJ6_bitCount_0f7a4 cJ6_bitCount_0f7a4 1 (some .int) 1 := ⟨w_177, w_1035, w_176, w_40, by decide +kernel⟩
theorem kL_115 : WV RL 115 RX9 yX9_gapOf cX9_gapOf 3 (some .int) 2 := ⟨w_995, w_992, w_993, w_994, w_29, by decide +kernel⟩
theorem kL_143 : WV RL 143 RX9 yX9_mean cX9_mean 3 (some .int) 0 := ⟨w_1039, w_1036, w_1037, w_1038, w_29, by decide +kernel⟩
theorem kL_147 : WS RL 147 yJxf58ca_floatToIntBits_5c35a cJxf58ca_floatToIntBits_5c35a 1 (some .int) 1 := ⟨w_1049, w_1047, w_1048, w_41, by decide +kernel⟩
theorem kL_153 : WV RL 153 RX9 yX9_isWell cX9_isWell 3 (some .int) 0 := ⟨w_1060, w_1057, w_1058, w_1059, w_29, by decide +kernel⟩
theorem kL_112 : WV RL 112 RX9 yX9_watched cX9_watched 2 (some .int) 1 := ⟨w_991, w_988, w_989, w_990, w_29, by decide +kernel⟩
theorem kL_106 : WV RL 106 RX9 yX9_sees cX9_sees 3 (some .int) 2 := ⟨w_978, w_975, w_976, w_977, w_29, by decide +kernel⟩
theorem kL_109 : WV RL 109 RX9 yX9_seenBy cX9_seenBy 2 (some .int) 1 := ⟨w_983, w_980, w_981, w_982, w_29, by decide +kernel⟩
theorem kL_102 : WS RL 102 yL_should cL_should 9 (some .boolean) 3 := ⟨w_974, w_972, w_973, w_28, by decide +kernel⟩
def Lfii (F : (SS → UInt32 → Int32 → Int32 → Prop) → SS → UInt32 → Int32 → Int32 → Prop) : Nat → SS → UInt32 → Int32 → Int32 → Prop
  | 0 => fun _ _ _ _ => False
  | k + 1 => F (Lfii F k)
theorem Lfii.snd {F : (SS → UInt32 → Int32 → Int32 → Prop) → SS → UInt32 → Int32 → Int32 → Prop} {P : SS → UInt32 → Int32 → Int32 → Prop} (h : ∀ rc : SS → UInt32 → Int32 → Int32 → Prop, (∀ (σ : SS) (v0 : UInt32) (v1 : Int32) (v2 : Int32), rc σ v0 v1 v2 → P σ v0 v1 v2) → ∀ (σ : SS) (v0 : UInt32) (v1 : Int32) (v2 : Int32), F rc σ v0 v1 v2 → P σ v0 v1 v2) : ∀ (k : Nat) (σ : SS) (v0 : UInt32) (v1 : Int32) (v2 : Int32), Lfii F k σ v0 v1 v2 → P σ v0 v1 v2
  | 0 => fun _ _ _ _ h => h.elim
  | k + 1 => h _ (Lfii.snd h k)
theorem Lfii.ex {F : (SS → UInt32 → Int32 → Int32 → Prop) → SS → UInt32 → Int32 → Int32 → Prop} (Inv : SS → UInt32 → Int32 → Int32 → Prop) (μ : SS → UInt32 → Int32 → Int32 → Nat) (h : ∀ rc : SS → UInt32 → Int32 → Int32 → Prop, ∀ (σ : SS) (v0 : UInt32) (v1 : Int32) (v2 : Int32), Inv σ v0 v1 v2 → (∀ (τ : SS) (w0 : UInt32) (w1 : Int32) (w2 : Int32), Inv τ w0 w1 w2 → μ τ w0 w1 w2 < μ σ v0 v1 v2 → rc τ w0 w1 w2) → F rc σ v0 v1 v2) {σ : SS} {v0 : UInt32} {v1 : Int32} {v2 : Int32} (hi : Inv σ v0 v1 v2) : ∃ k, Lfii F k σ v0 v1 v2 := by
  have key : ∀ (N : Nat) (σ : SS) (v0 : UInt32) (v1 : Int32) (v2 : Int32), Inv σ v0 v1 v2 → μ σ v0 v1 v2 < N → Lfii F N σ v0 v1 v2 := by
    intro N
    induction N with
    | zero => intro σ v0 v1 v2 _ h2; omega
    | succ N ih => intro σ v0 v1 v2 h1 h2; exact h _ σ v0 v1 v2 h1 (fun τ w0 w1 w2 g1 g2 => ih τ w0 w1 w2 g1 (by omega))
  exact ⟨_, key _ σ v0 v1 v2 hi (Nat.lt_succ_self _)⟩
def Li (F : (SS → Int32 → Prop) → SS → Int32 → Prop) : Nat → SS → Int32 → Prop
  | 0 => fun _ _ => False
  | k + 1 => F (Li F k)
theorem Li.snd {F : (SS → Int32 → Prop) → SS → Int32 → Prop} {P : SS → Int32 → Prop} (h : ∀ rc : SS → Int32 → Prop, (∀ (σ : SS) (v0 : Int32), rc σ v0 → P σ v0) → ∀ (σ : SS) (v0 : Int32), F rc σ v0 → P σ v0) : ∀ (k : Nat) (σ : SS) (v0 : Int32), Li F k σ v0 → P σ v0
  | 0 => fun _ _ h => h.elim
  | k + 1 => h _ (Li.snd h k)
theorem Li.ex {F : (SS → Int32 → Prop) → SS → Int32 → Prop} (Inv : SS → Int32 → Prop) (μ : SS → Int32 → Nat) (h : ∀ rc : SS → Int32 → Prop, ∀ (σ : SS) (v0 : Int32), Inv σ v0 → (∀ (τ : SS) (w0 : Int32), Inv τ w0 → μ τ w0 < μ σ v0 → rc τ w0) → F rc σ v0) {σ : SS} {v0 : Int32} (hi : Inv σ v0) : ∃ k, Li F k σ v0 := by
  have key : ∀ (N : Nat) (σ : SS) (v0 : Int32), Inv σ v0 → μ σ v0 < N → Li F N σ v0 := by
    intro N
    induction N with
    | zero => intro σ v0 _ h2; omega
    | succ N ih => intro σ v0 h1 h2; exact h _ σ v0 h1 (fun τ w0 g1 g2 => ih τ w0 g1 (by omega))
  exact ⟨_, key _ σ v0 hi (Nat.lt_succ_self _)⟩
def Lii (F : (SS → Int32 → Int32 → Prop) → SS → Int32 → Int32 → Prop) : Nat → SS → Int32 → Int32 → Prop
  | 0 => fun _ _ _ => False
  | k + 1 => F (Lii F k)
theorem Lii.snd {F : (SS → Int32 → Int32 → Prop) → SS → Int32 → Int32 → Prop} {P : SS → Int32 → Int32 → Prop} (h : ∀ rc : SS → Int32 → Int32 → Prop, (∀ (σ : SS) (v0 : Int32) (v1 : Int32), rc σ v0 v1 → P σ v0 v1) → ∀ (σ : SS) (v0 : Int32) (v1 : Int32), F rc σ v0 v1 → P σ v0 v1) : ∀ (k : Nat) (σ : SS) (v0 : Int32) (v1 : Int32), Lii F k σ v0 v1 → P σ v0 v1
  | 0 => fun _ _ _ h => h.elim
  | k + 1 => h _ (Lii.snd h k)
theorem Lii.ex {F : (SS → Int32 → Int32 → Prop) → SS → Int32 → Int32 → Prop} (Inv : SS → Int32 → Int32 → Prop) (μ : SS → Int32 → Int32 → Nat) (h : ∀ rc : SS → Int32 → Int32 → Prop, ∀ (σ : SS) (v0 : Int32) (v1 : Int32), Inv σ v0 v1 → (∀ (τ : SS) (w0 : Int32) (w1 : Int32), Inv τ w0 w1 → μ τ w0 w1 < μ σ v0 v1 → rc τ w0 w1) → F rc σ v0 v1) {σ : SS} {v0 : Int32} {v1 : Int32} (hi : Inv σ v0 v1) : ∃ k, Lii F k σ v0 v1 := by
  have key : ∀ (N : Nat) (σ : SS) (v0 : Int32) (v1 : Int32), Inv σ v0 v1 → μ σ v0 v1 < N → Lii F N σ v0 v1 := by
    intro N
    induction N with
    | zero => intro σ v0 v1 _ h2; omega
    | succ N ih => intro σ v0 v1 h1 h2; exact h _ σ v0 v1 h1 (fun τ w0 w1 g1 g2 => ih τ w0 w1 g1 (by omega))
  exact ⟨_, key _ σ v0 v1 hi (Nat.lt_succ_self _)⟩
def Liii (F : (SS → Int32 → Int32 → Int32 → Prop) → SS → Int32 → Int32 → Int32 → Prop) : Nat → SS → Int32 → Int32 → Int32 → Prop
  | 0 => fun _ _ _ _ => False
  | k + 1 => F (Liii F k)
theorem Liii.snd {F : (SS → Int32 → Int32 → Int32 → Prop) → SS → Int32 → Int32 → Int32 → Prop} {P : SS → Int32 → Int32 → Int32 → Prop} (h : ∀ rc : SS → Int32 → Int32 → Int32 → Prop, (∀ (σ : SS) (v0 : Int32) (v1 : Int32) (v2 : Int32), rc σ v0 v1 v2 → P σ v0 v1 v2) → ∀ (σ : SS) (v0 : Int32) (v1 : Int32) (v2 : Int32), F rc σ v0 v1 v2 → P σ v0 v1 v2) : ∀ (k : Nat) (σ : SS) (v0 : Int32) (v1 : Int32) (v2 : Int32), Liii F k σ v0 v1 v2 → P σ v0 v1 v2
  | 0 => fun _ _ _ _ h => h.elim
  | k + 1 => h _ (Liii.snd h k)
theorem Liii.ex {F : (SS → Int32 → Int32 → Int32 → Prop) → SS → Int32 → Int32 → Int32 → Prop} (Inv : SS → Int32 → Int32 → Int32 → Prop) (μ : SS → Int32 → Int32 → Int32 → Nat) (h : ∀ rc : SS → Int32 → Int32 → Int32 → Prop, ∀ (σ : SS) (v0 : Int32) (v1 : Int32) (v2 : Int32), Inv σ v0 v1 v2 → (∀ (τ : SS) (w0 : Int32) (w1 : Int32) (w2 : Int32), Inv τ w0 w1 w2 → μ τ w0 w1 w2 < μ σ v0 v1 v2 → rc τ w0 w1 w2) → F rc σ v0 v1 v2) {σ : SS} {v0 : Int32} {v1 : Int32} {v2 : Int32} (hi : Inv σ v0 v1 v2) : ∃ k, Liii F k σ v0 v1 v2 := by
  have key : ∀ (N : Nat) (σ : SS) (v0 : Int32) (v1 : Int32) (v2 : Int32), Inv σ v0 v1 v2 → μ σ v0 v1 v2 < N → Liii F N σ v0 v1 v2 := by
    intro N
    induction N with
    | zero => intro σ v0 v1 v2 _ h2; omega
    | succ N ih => intro σ v0 v1 v2 h1 h2; exact h _ σ v0 v1 v2 h1 (fun τ w0 w1 w2 g1 g2 => ih τ w0 w1 w2 g1 (by omega))
  exact ⟨_, key _ σ v0 v1 v2 hi (Nat.lt_succ_self _)⟩
def Liiii (F : (SS → Int32 → Int32 → Int32 → Int32 → Prop) → SS → Int32 → Int32 → Int32 → Int32 → Prop) : Nat → SS → Int32 → Int32 → Int32 → Int32 → Prop
  | 0 => fun _ _ _ _ _ => False
  | k + 1 => F (Liiii F k)
theorem Liiii.snd {F : (SS → Int32 → Int32 → Int32 → Int32 → Prop) → SS → Int32 → Int32 → Int32 → Int32 → Prop} {P : SS → Int32 → Int32 → Int32 → Int32 → Prop} (h : ∀ rc : SS → Int32 → Int32 → Int32 → Int32 → Prop, (∀ (σ : SS) (v0 : Int32) (v1 : Int32) (v2 : Int32) (v3 : Int32), rc σ v0 v1 v2 v3 → P σ v0 v1 v2 v3) → ∀ (σ : SS) (v0 : Int32) (v1 : Int32) (v2 : Int32) (v3 : Int32), F rc σ v0 v1 v2 v3 → P σ v0 v1 v2 v3) : ∀ (k : Nat) (σ : SS) (v0 : Int32) (v1 : Int32) (v2 : Int32) (v3 : Int32), Liiii F k σ v0 v1 v2 v3 → P σ v0 v1 v2 v3
  | 0 => fun _ _ _ _ _ h => h.elim
  | k + 1 => h _ (Liiii.snd h k)
theorem Liiii.ex {F : (SS → Int32 → Int32 → Int32 → Int32 → Prop) → SS → Int32 → Int32 → Int32 → Int32 → Prop} (Inv : SS → Int32 → Int32 → Int32 → Int32 → Prop) (μ : SS → Int32 → Int32 → Int32 → Int32 → Nat) (h : ∀ rc : SS → Int32 → Int32 → Int32 → Int32 → Prop, ∀ (σ : SS) (v0 : Int32) (v1 : Int32) (v2 : Int32) (v3 : Int32), Inv σ v0 v1 v2 v3 → (∀ (τ : SS) (w0 : Int32) (w1 : Int32) (w2 : Int32) (w3 : Int32), Inv τ w0 w1 w2 w3 → μ τ w0 w1 w2 w3 < μ σ v0 v1 v2 v3 → rc τ w0 w1 w2 w3) → F rc σ v0 v1 v2 v3) {σ : SS} {v0 : Int32} {v1 : Int32} {v2 : Int32} {v3 : Int32} (hi : Inv σ v0 v1 v2 v3) : ∃ k, Liiii F k σ v0 v1 v2 v3 := by
  have key : ∀ (N : Nat) (σ : SS) (v0 : Int32) (v1 : Int32) (v2 : Int32) (v3 : Int32), Inv σ v0 v1 v2 v3 → μ σ v0 v1 v2 v3 < N → Liiii F N σ v0 v1 v2 v3 := by
    intro N
    induction N with
    | zero => intro σ v0 v1 v2 v3 _ h2; omega
    | succ N ih => intro σ v0 v1 v2 v3 h1 h2; exact h _ σ v0 v1 v2 v3 h1 (fun τ w0 w1 w2 w3 g1 g2 => ih τ w0 w1 w2 w3 g1 (by omega))
  exact ⟨_, key _ σ v0 v1 v2 v3 hi (Nat.lt_succ_self _)⟩
def Liiiii (F : (SS → Int32 → Int32 → Int32 → Int32 → Int32 → Prop) → SS → Int32 → Int32 → Int32 → Int32 → Int32 → Prop) : Nat → SS → Int32 → Int32 → Int32 → Int32 → Int32 → Prop
  | 0 => fun _ _ _ _ _ _ => False
  | k + 1 => F (Liiiii F k)
theorem Liiiii.snd {F : (SS → Int32 → Int32 → Int32 → Int32 → Int32 → Prop) → SS → Int32 → Int32 → Int32 → Int32 → Int32 → Prop} {P : SS → Int32 → Int32 → Int32 → Int32 → Int32 → Prop} (h : ∀ rc : SS → Int32 → Int32 → Int32 → Int32 → Int32 → Prop, (∀ (σ : SS) (v0 : Int32) (v1 : Int32) (v2 : Int32) (v3 : Int32) (v4 : Int32), rc σ v0 v1 v2 v3 v4 → P σ v0 v1 v2 v3 v4) → ∀ (σ : SS) (v0 : Int32) (v1 : Int32) (v2 : Int32) (v3 : Int32) (v4 : Int32), F rc σ v0 v1 v2 v3 v4 → P σ v0 v1 v2 v3 v4) : ∀ (k : Nat) (σ : SS) (v0 : Int32) (v1 : Int32) (v2 : Int32) (v3 : Int32) (v4 : Int32), Liiiii F k σ v0 v1 v2 v3 v4 → P σ v0 v1 v2 v3 v4
  | 0 => fun _ _ _ _ _ _ h => h.elim
  | k + 1 => h _ (Liiiii.snd h k)
theorem Liiiii.ex {F : (SS → Int32 → Int32 → Int32 → Int32 → Int32 → Prop) → SS → Int32 → Int32 → Int32 → Int32 → Int32 → Prop} (Inv : SS → Int32 → Int32 → Int32 → Int32 → Int32 → Prop) (μ : SS → Int32 → Int32 → Int32 → Int32 → Int32 → Nat) (h : ∀ rc : SS → Int32 → Int32 → Int32 → Int32 → Int32 → Prop, ∀ (σ : SS) (v0 : Int32) (v1 : Int32) (v2 : Int32) (v3 : Int32) (v4 : Int32), Inv σ v0 v1 v2 v3 v4 → (∀ (τ : SS) (w0 : Int32) (w1 : Int32) (w2 : Int32) (w3 : Int32) (w4 : Int32), Inv τ w0 w1 w2 w3 w4 → μ τ w0 w1 w2 w3 w4 < μ σ v0 v1 v2 v3 v4 → rc τ w0 w1 w2 w3 w4) → F rc σ v0 v1 v2 v3 v4) {σ : SS} {v0 : Int32} {v1 : Int32} {v2 : Int32} {v3 : Int32} {v4 : Int32} (hi : Inv σ v0 v1 v2 v3 v4) : ∃ k, Liiiii F k σ v0 v1 v2 v3 v4 := by
  have key : ∀ (N : Nat) (σ : SS) (v0 : Int32) (v1 : Int32) (v2 : Int32) (v3 : Int32) (v4 : Int32), Inv σ v0 v1 v2 v3 v4 → μ σ v0 v1 v2 v3 v4 < N → Liiiii F N σ v0 v1 v2 v3 v4 := by
    intro N
    induction N with
    | zero => intro σ v0 v1 v2 v3 v4 _ h2; omega
    | succ N ih => intro σ v0 v1 v2 v3 v4 h1 h2; exact h _ σ v0 v1 v2 v3 v4 h1 (fun τ w0 w1 w2 w3 w4 g1 g2 => ih τ w0 w1 w2 w3 w4 g1 (by omega))
  exact ⟨_, key _ σ v0 v1 v2 v3 v4 hi (Nat.lt_succ_self _)⟩
