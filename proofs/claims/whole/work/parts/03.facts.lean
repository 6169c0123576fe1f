/-! by program: the words of the tables, the fields, the calls; loops as predicates -/
theorem inX0 : ∀ w ∈ u_ws RX0 TX0 5, w ∈ TB := by
  have e : u_ws RX0 TX0 5 = [202, 204, 206, 208, 210].filterMap (fun i : Nat => lw_tbl[i]?) := by decide +kernel
  have g : (u_ws RX0 TX0 5).all goodWord = true := by decide +kernel
  intro w hw
  have hg := List.all_eq_true.mp g w hw
  rw [e] at hw
  obtain ⟨i, -, hi⟩ := List.mem_filterMap.mp hw
  exact tb_m i hi hg
theorem tyE0 : ∀ k, k < 5 → ∃ ty, parseFieldDescriptor (TX0 k).2.2.1 = some ty := fun k h => ⟨_, tyX0_ok k h⟩
theorem inX1 : ∀ w ∈ u_ws RX1 TX1 3, w ∈ TB := by
  have e : u_ws RX1 TX1 3 = [223, 225, 227].filterMap (fun i : Nat => lw_tbl[i]?) := by decide +kernel
  have g : (u_ws RX1 TX1 3).all goodWord = true := by decide +kernel
  intro w hw
  have hg := List.all_eq_true.mp g w hw
  rw [e] at hw
  obtain ⟨i, -, hi⟩ := List.mem_filterMap.mp hw
  exact tb_m i hi hg
theorem tyE1 : ∀ k, k < 3 → ∃ ty, parseFieldDescriptor (TX1 k).2.2.1 = some ty := fun k h => ⟨_, tyX1_ok k h⟩
theorem inX2 : ∀ w ∈ u_ws RX2 TX2 2, w ∈ TB := by
  have e : u_ws RX2 TX2 2 = [282, 284].filterMap (fun i : Nat => lw_tbl[i]?) := by decide +kernel
  have g : (u_ws RX2 TX2 2).all goodWord = true := by decide +kernel
  intro w hw
  have hg := List.all_eq_true.mp g w hw
  rw [e] at hw
  obtain ⟨i, -, hi⟩ := List.mem_filterMap.mp hw
  exact tb_m i hi hg
theorem tyE2 : ∀ k, k < 2 → ∃ ty, parseFieldDescriptor (TX2 k).2.2.1 = some ty := fun k h => ⟨_, tyX2_ok k h⟩
theorem inX3 : ∀ w ∈ u_ws RX3 TX3 1, w ∈ TB := by
  have e : u_ws RX3 TX3 1 = [237].filterMap (fun i : Nat => lw_tbl[i]?) := by decide +kernel
  have g : (u_ws RX3 TX3 1).all goodWord = true := by decide +kernel
  intro w hw
  have hg := List.all_eq_true.mp g w hw
  rw [e] at hw
  obtain ⟨i, -, hi⟩ := List.mem_filterMap.mp hw
  exact tb_m i hi hg
theorem tyE3 : ∀ k, k < 1 → ∃ ty, parseFieldDescriptor (TX3 k).2.2.1 = some ty := fun k h => ⟨_, tyX3_ok k h⟩
theorem inX4 : ∀ w ∈ u_ws RX4 TX4 3, w ∈ TB := by
  have e : u_ws RX4 TX4 3 = [163, 165, 167].filterMap (fun i : Nat => lw_tbl[i]?) := by decide +kernel
  have g : (u_ws RX4 TX4 3).all goodWord = true := by decide +kernel
  intro w hw
  have hg := List.all_eq_true.mp g w hw
  rw [e] at hw
  obtain ⟨i, -, hi⟩ := List.mem_filterMap.mp hw
  exact tb_m i hi hg
theorem tyE4 : ∀ k, k < 3 → ∃ ty, parseFieldDescriptor (TX4 k).2.2.1 = some ty := fun k h => ⟨_, tyX4_ok k h⟩
theorem inX5 : ∀ w ∈ u_ws RX5 TX5 3, w ∈ TB := by
  have e : u_ws RX5 TX5 3 = [296, 298, 300].filterMap (fun i : Nat => lw_tbl[i]?) := by decide +kernel
  have g : (u_ws RX5 TX5 3).all goodWord = true := by decide +kernel
  intro w hw
  have hg := List.all_eq_true.mp g w hw
  rw [e] at hw
  obtain ⟨i, -, hi⟩ := List.mem_filterMap.mp hw
  exact tb_m i hi hg
theorem tyE5 : ∀ k, k < 3 → ∃ ty, parseFieldDescriptor (TX5 k).2.2.1 = some ty := fun k h => ⟨_, tyX5_ok k h⟩
theorem inX6 : ∀ w ∈ u_ws RX6 TX6 3, w ∈ TB := by
  have e : u_ws RX6 TX6 3 = [181, 183, 185].filterMap (fun i : Nat => lw_tbl[i]?) := by decide +kernel
  have g : (u_ws RX6 TX6 3).all goodWord = true := by decide +kernel
  intro w hw
  have hg := List.all_eq_true.mp g w hw
  rw [e] at hw
  obtain ⟨i, -, hi⟩ := List.mem_filterMap.mp hw
  exact tb_m i hi hg
theorem tyE6 : ∀ k, k < 3 → ∃ ty, parseFieldDescriptor (TX6 k).2.2.1 = some ty := fun k h => ⟨_, tyX6_ok k h⟩
theorem inX7 : ∀ w ∈ u_ws RX7 TX7 7, w ∈ TB := by
  have e : u_ws RX7 TX7 7 = [258, 260, 262, 264, 266, 268, 270].filterMap (fun i : Nat => lw_tbl[i]?) := by decide +kernel
  have g : (u_ws RX7 TX7 7).all goodWord = true := by decide +kernel
  intro w hw
  have hg := List.all_eq_true.mp g w hw
  rw [e] at hw
  obtain ⟨i, -, hi⟩ := List.mem_filterMap.mp hw
  exact tb_m i hi hg
theorem tyE7 : ∀ k, k < 7 → ∃ ty, parseFieldDescriptor (TX7 k).2.2.1 = some ty := fun k h => ⟨_, tyX7_ok k h⟩
theorem inX8 : ∀ w ∈ u_ws RX8 TX8 11, w ∈ TB := by
  have e : u_ws RX8 TX8 11 = [126, 128, 130, 132, 134, 136, 138, 140, 142, 144, 146].filterMap (fun i : Nat => lw_tbl[i]?) := by decide +kernel
  have g : (u_ws RX8 TX8 11).all goodWord = true := by decide +kernel
  intro w hw
  have hg := List.all_eq_true.mp g w hw
  rw [e] at hw
  obtain ⟨i, -, hi⟩ := List.mem_filterMap.mp hw
  exact tb_m i hi hg
theorem tyE8 : ∀ k, k < 11 → ∃ ty, parseFieldDescriptor (TX8 k).2.2.1 = some ty := fun k h => ⟨_, tyX8_ok k h⟩
theorem inX9 : ∀ w ∈ u_ws RX9 TX9 13, w ∈ TB := by
  have e : u_ws RX9 TX9 13 = [316, 318, 320, 322, 324, 326, 328, 330, 332, 334, 336, 338, 340].filterMap (fun i : Nat => lw_tbl[i]?) := by decide +kernel
  have g : (u_ws RX9 TX9 13).all goodWord = true := by decide +kernel
  intro w hw
  have hg := List.all_eq_true.mp g w hw
  rw [e] at hw
  obtain ⟨i, -, hi⟩ := List.mem_filterMap.mp hw
  exact tb_m i hi hg
theorem tyE9 : ∀ k, k < 13 → ∃ ty, parseFieldDescriptor (TX9 k).2.2.1 = some ty := fun k h => ⟨_, tyX9_ok k h⟩
theorem inX10 : ∀ w ∈ u_ws RX10 TX10 16, w ∈ TB := by
  have e : u_ws RX10 TX10 16 = [862, 864, 866, 868, 870, 872, 874, 876, 878, 880, 882, 884, 886, 888, 890, 892].filterMap (fun i : Nat => lw_tbl[i]?) := by decide +kernel
  have g : (u_ws RX10 TX10 16).all goodWord = true := by decide +kernel
  intro w hw
  have hg := List.all_eq_true.mp g w hw
  rw [e] at hw
  obtain ⟨i, -, hi⟩ := List.mem_filterMap.mp hw
  exact tb_m i hi hg
theorem tyE10 : ∀ k, k < 16 → ∃ ty, parseFieldDescriptor (TX10 k).2.2.1 = some ty := fun k h => ⟨_, tyX10_ok k h⟩
theorem k_0 : kt 0 = (11, 13, [.some 1, .some 8, .some 15, .some 22, .some 80, .some 82, .some 85, .some 88, .some 90, .some 92, .some 94, .none, .none]) := rfl
theorem k_1 : kt 1 = (10, 11, [.some 2, .some 3, .some 4, .some 5, .some 6, .some 7, .none, .none, .none, .none, .none]) := rfl
theorem k_2 : kt 2 = (0, 9, []) := rfl
theorem k_3 : kt 3 = (0, 9, []) := rfl
theorem k_4 : kt 4 = (0, 9, []) := rfl
theorem k_5 : kt 5 = (0, 9, []) := rfl
theorem k_6 : kt 6 = (0, 9, []) := rfl
theorem k_7 : kt 7 = (0, 9, []) := rfl
theorem k_8 : kt 8 = (10, 11, [.some 9, .some 10, .some 11, .some 12, .some 13, .some 14, .none, .none, .none, .none, .none]) := rfl
theorem k_9 : kt 9 = (0, 9, []) := rfl
theorem k_10 : kt 10 = (0, 9, []) := rfl
theorem k_11 : kt 11 = (0, 9, []) := rfl
theorem k_12 : kt 12 = (0, 9, []) := rfl
theorem k_13 : kt 13 = (0, 9, []) := rfl
theorem k_14 : kt 14 = (0, 9, []) := rfl
theorem k_15 : kt 15 = (10, 11, [.some 16, .some 17, .some 18, .some 19, .some 20, .some 21, .none, .none, .none, .none, .none]) := rfl
theorem k_16 : kt 16 = (0, 9, []) := rfl
theorem k_17 : kt 17 = (0, 9, []) := rfl
theorem k_18 : kt 18 = (0, 9, []) := rfl
theorem k_19 : kt 19 = (0, 9, []) := rfl
theorem k_20 : kt 20 = (0, 9, []) := rfl
theorem k_21 : kt 21 = (0, 9, []) := rfl
theorem k_22 : kt 22 = (6, 3, [.some 23, .none, .none]) := rfl
theorem k_24 : kt 24 = (10, 11, [.some 25, .some 26, .some 27, .some 28, .some 29, .some 30, .none, .none, .none, .none, .none]) := rfl
theorem k_25 : kt 25 = (0, 9, []) := rfl
theorem k_26 : kt 26 = (0, 9, []) := rfl
theorem k_27 : kt 27 = (0, 9, []) := rfl
theorem k_28 : kt 28 = (0, 9, []) := rfl
theorem k_29 : kt 29 = (0, 9, []) := rfl
theorem k_30 : kt 30 = (0, 9, []) := rfl
theorem k_31 : kt 31 = (10, 11, [.some 32, .some 33, .some 34, .some 35, .some 36, .some 37, .none, .none, .none, .none, .none]) := rfl
theorem k_32 : kt 32 = (0, 9, []) := rfl
theorem k_33 : kt 33 = (0, 9, []) := rfl
theorem k_34 : kt 34 = (0, 9, []) := rfl
theorem k_35 : kt 35 = (0, 9, []) := rfl
theorem k_36 : kt 36 = (0, 9, []) := rfl
theorem k_37 : kt 37 = (0, 9, []) := rfl
theorem k_38 : kt 38 = (10, 11, [.some 39, .some 40, .some 41, .some 42, .some 43, .some 44, .none, .none, .none, .none, .none]) := rfl
theorem k_39 : kt 39 = (0, 9, []) := rfl
theorem k_40 : kt 40 = (0, 9, []) := rfl
theorem k_41 : kt 41 = (0, 9, []) := rfl
theorem k_42 : kt 42 = (0, 9, []) := rfl
theorem k_43 : kt 43 = (0, 9, []) := rfl
theorem k_44 : kt 44 = (0, 9, []) := rfl
theorem k_45 : kt 45 = (10, 11, [.some 46, .some 47, .some 48, .some 49, .some 50, .some 51, .none, .none, .none, .none, .none]) := rfl
theorem k_46 : kt 46 = (0, 9, []) := rfl
theorem k_47 : kt 47 = (0, 9, []) := rfl
theorem k_48 : kt 48 = (0, 9, []) := rfl
theorem k_49 : kt 49 = (0, 9, []) := rfl
theorem k_50 : kt 50 = (0, 9, []) := rfl
theorem k_51 : kt 51 = (0, 9, []) := rfl
theorem k_52 : kt 52 = (10, 11, [.some 53, .some 54, .some 55, .some 56, .some 57, .some 58, .none, .none, .none, .none, .none]) := rfl
theorem k_53 : kt 53 = (0, 9, []) := rfl
theorem k_54 : kt 54 = (0, 9, []) := rfl
theorem k_55 : kt 55 = (0, 9, []) := rfl
theorem k_56 : kt 56 = (0, 9, []) := rfl
theorem k_57 : kt 57 = (0, 9, []) := rfl
theorem k_58 : kt 58 = (0, 9, []) := rfl
theorem k_59 : kt 59 = (10, 11, [.some 60, .some 61, .some 62, .some 63, .some 64, .some 65, .none, .none, .none, .none, .none]) := rfl
theorem k_60 : kt 60 = (0, 9, []) := rfl
theorem k_61 : kt 61 = (0, 9, []) := rfl
theorem k_62 : kt 62 = (0, 9, []) := rfl
theorem k_63 : kt 63 = (0, 9, []) := rfl
theorem k_64 : kt 64 = (0, 9, []) := rfl
theorem k_65 : kt 65 = (0, 9, []) := rfl
theorem k_66 : kt 66 = (10, 11, [.some 67, .some 68, .some 69, .some 70, .some 71, .some 72, .none, .none, .none, .none, .none]) := rfl
theorem k_67 : kt 67 = (0, 9, []) := rfl
theorem k_68 : kt 68 = (0, 9, []) := rfl
theorem k_69 : kt 69 = (0, 9, []) := rfl
theorem k_70 : kt 70 = (0, 9, []) := rfl
theorem k_71 : kt 71 = (0, 9, []) := rfl
theorem k_72 : kt 72 = (0, 9, []) := rfl
theorem k_73 : kt 73 = (10, 11, [.some 74, .some 75, .some 76, .some 77, .some 78, .some 79, .none, .none, .none, .none, .none]) := rfl
theorem k_74 : kt 74 = (0, 9, []) := rfl
theorem k_75 : kt 75 = (0, 9, []) := rfl
theorem k_76 : kt 76 = (0, 9, []) := rfl
theorem k_77 : kt 77 = (0, 9, []) := rfl
theorem k_78 : kt 78 = (0, 9, []) := rfl
theorem k_79 : kt 79 = (0, 9, []) := rfl
theorem k_80 : kt 80 = (8, 3, [.some 81, .none, .none]) := rfl
theorem k_81 : kt 81 = (0, 9, []) := rfl
theorem k_82 : kt 82 = (2, 5, [.some 83, .some 84, .none, .none, .none]) := rfl
theorem k_83 : kt 83 = (0, 512, []) := rfl
theorem k_84 : kt 84 = (0, 24, []) := rfl
theorem k_85 : kt 85 = (3, 3, [.some 86, .some 87, .none]) := rfl
theorem k_86 : kt 86 = (0, 12, []) := rfl
theorem k_87 : kt 87 = (0, 12, []) := rfl
theorem k_88 : kt 88 = (5, 1, [.some 89]) := rfl
theorem k_89 : kt 89 = (0, 9, []) := rfl
theorem k_90 : kt 90 = (9, 7, [.some 91, .none, .none, .none, .none, .none, .none]) := rfl
theorem k_91 : kt 91 = (0, 70, []) := rfl
theorem k_92 : kt 92 = (4, 2, [.some 93, .none]) := rfl
theorem k_93 : kt 93 = (0, 24, []) := rfl
theorem k_94 : kt 94 = (7, 3, [.none, .none, .none]) := rfl
theorem k_95 : kt 95 = (12, 16, [.some 96, .some 97, .some 98, .some 99, .none, .none, .none, .none, .none, .some 100, .none, .some 101, .some 102, .none, .none, .none]) := rfl
theorem k_96 : kt 96 = (0, 59, []) := rfl
theorem k_97 : kt 97 = (0, 59, []) := rfl
theorem k_98 : kt 98 = (0, 59, []) := rfl
theorem k_99 : kt 99 = (0, 472, []) := rfl
theorem k_100 : kt 100 = (0, 24, []) := rfl
theorem k_101 : kt 101 = (0, 70, []) := rfl
theorem k_102 : kt 102 = (0, 144, []) := rfl
def isW (a : Nat) : Prop := a = 1 ∨ a = 8 ∨ a = 15 ∨ a = 24 ∨ a = 31 ∨ a = 38 ∨ a = 45 ∨ a = 52 ∨ a = 59 ∨ a = 66 ∨ a = 73
theorem kW {a : Nat} (h : isW a) : kt a = (10, 11, [some (a + 1), some (a + 2), some (a + 3), some (a + 4), some (a + 5), some (a + 6), none, none, none, none, none]) := by rcases h with rfl | rfl | rfl | rfl | rfl | rfl | rfl | rfl | rfl | rfl | rfl <;> rfl
theorem lW {a : Nat} (h : isW a) : a < 103 := by rcases h with rfl | rfl | rfl | rfl | rfl | rfl | rfl | rfl | rfl | rfl | rfl <;> decide
theorem kW1 {a : Nat} (h : isW a) : kt (a + 1) = (0, 9, []) := by rcases h with rfl | rfl | rfl | rfl | rfl | rfl | rfl | rfl | rfl | rfl | rfl <;> rfl
theorem lW1 {a : Nat} (h : isW a) : a + 1 < 103 := by rcases h with rfl | rfl | rfl | rfl | rfl | rfl | rfl | rfl | rfl | rfl | rfl <;> decide
theorem kW2 {a : Nat} (h : isW a) : kt (a + 2) = (0, 9, []) := by rcases h with rfl | rfl | rfl | rfl | rfl | rfl | rfl | rfl | rfl | rfl | rfl <;> rfl
theorem lW2 {a : Nat} (h : isW a) : a + 2 < 103 := by rcases h with rfl | rfl | rfl | rfl | rfl | rfl | rfl | rfl | rfl | rfl | rfl <;> decide
theorem kW3 {a : Nat} (h : isW a) : kt (a + 3) = (0, 9, []) := by rcases h with rfl | rfl | rfl | rfl | rfl | rfl | rfl | rfl | rfl | rfl | rfl <;> rfl
theorem lW3 {a : Nat} (h : isW a) : a + 3 < 103 := by rcases h with rfl | rfl | rfl | rfl | rfl | rfl | rfl | rfl | rfl | rfl | rfl <;> decide
theorem kW4 {a : Nat} (h : isW a) : kt (a + 4) = (0, 9, []) := by rcases h with rfl | rfl | rfl | rfl | rfl | rfl | rfl | rfl | rfl | rfl | rfl <;> rfl
theorem lW4 {a : Nat} (h : isW a) : a + 4 < 103 := by rcases h with rfl | rfl | rfl | rfl | rfl | rfl | rfl | rfl | rfl | rfl | rfl <;> decide
theorem kW5 {a : Nat} (h : isW a) : kt (a + 5) = (0, 9, []) := by rcases h with rfl | rfl | rfl | rfl | rfl | rfl | rfl | rfl | rfl | rfl | rfl <;> rfl
theorem lW5 {a : Nat} (h : isW a) : a + 5 < 103 := by rcases h with rfl | rfl | rfl | rfl | rfl | rfl | rfl | rfl | rfl | rfl | rfl <;> decide
theorem kW6 {a : Nat} (h : isW a) : kt (a + 6) = (0, 9, []) := by rcases h with rfl | rfl | rfl | rfl | rfl | rfl | rfl | rfl | rfl | rfl | rfl <;> rfl
theorem lW6 {a : Nat} (h : isW a) : a + 6 < 103 := by rcases h with rfl | rfl | rfl | rfl | rfl | rfl | rfl | rfl | rfl | rfl | rfl <;> decide
theorem rW {a j : Nat} (h : isW a) (h6 : 6 ≤ j) (h11 : j < 11) : isRef a j = false := by
  rcases (show j = 6 ∨ j = 7 ∨ j = 8 ∨ j = 9 ∨ j = 10 by omega) with rfl | rfl | rfl | rfl | rfl <;> (rcases h with rfl | rfl | rfl | rfl | rfl | rfl | rfl | rfl | rfl | rfl | rfl <;> rfl)
theorem isW_1 : isW 1 := by unfold isW; decide
theorem isW_8 : isW 8 := by unfold isW; decide
theorem isW_15 : isW 15 := by unfold isW; decide
theorem isW_24 : isW 24 := by unfold isW; decide
theorem isW_31 : isW 31 := by unfold isW; decide
theorem isW_38 : isW 38 := by unfold isW; decide
theorem isW_45 : isW 45 := by unfold isW; decide
theorem isW_52 : isW 52 := by unfold isW; decide
theorem isW_59 : isW 59 := by unfold isW; decide
theorem isW_66 : isW 66 := by unfold isW; decide
theorem isW_73 : isW 73 := by unfold isW; decide
theorem isW_past {i : Int32} (h : vp_in i 8) : isW (24 + 7 * i.toNatClampNeg) := by
  have hlt : i.toNatClampNeg < 8 := Nat.not_le.mp fun q => h (Or.inr q)
  unfold isW
  omega
theorem i32_ne {x c : Int32} (h : ¬ x = c) : x.toInt ≠ c.toInt := fun e => h (Int32.toInt_inj.mp e)
theorem rmN_ok {fr lo fr1 lo1 mL : Nat} (h1 : fr1 + 1 ≤ fr) (h2 : 8 + (mL + 11) + lo1 ≤ lo) : RmOk (rmN fr lo) fr1 lo1 mL 0 0 := ⟨⟨h1, h2⟩, Nat.le_refl _, Nat.le_refl _⟩
theorem qg {qt : List (Nat × Cond)} (h : qt.all (fun q => decide (lw_tbl[q.1]? = some q.2) && goodWord q.2) = true) (i : Nat) {n : Nat} {w : Cond} (hi : qt[i]? = some (n, w)) : w ∈ TB := by
  have h1 := List.all_eq_true.mp h _ (List.mem_of_getElem? hi)
  simp only [Bool.and_eq_true, decide_eq_true_eq] at h1
  exact tb_m n h1.1 h1.2
def qt0 : List (Nat × Cond) := [(196, Cond.fieldLink RX0 18 "FortressWatch$Chooser" "best" "I"), (198, Cond.fieldLink RX0 22 "FortressWatch$Chooser" "ways" "I"), (200, Cond.fieldLink RX0 25 "FortressWatch$Chooser" "inEach" "I"), (178, Cond.fieldLink RX0 28 "FortressWatch$Sights" "posts" "I"), (517, Cond.code yX0_fillSets cX0_fillSets 6 none), (514, Cond.methodLink RX0 33 yX0_fillSets), (516, Cond.instanceMethod yX0_fillSets), (14, Cond.selects RX0 yX0_fillSets yX0_fillSets), (78, Cond.initialized RX0), (194, Cond.fieldLink RX0 9 "FortressWatch$Chooser" "seenBySet" "[I"), (456, Cond.code yX6_of cX6_of 2 (some .int)), (518, Cond.methodLink RX0 44 yX6_of), (454, Cond.instanceMethod yX6_of), (455, Cond.selects RX6 yX6_of yX6_of), (77, Cond.initialized RX6), (176, Cond.fieldLink RX6 9 "FortressWatch$Sights" "row" "[I"), (459, Cond.code yJ6_bitCount_0f7a4 cJ6_bitCount_0f7a4 1 (some .int)), (519, Cond.methodLink RX0 37 yJ6_bitCount_0f7a4), (458, Cond.static yJ6_bitCount_0f7a4), (86, Cond.initialized RJ6), (460, Cond.constant RJ6 265 (1431655765)), (461, Cond.constant RJ6 266 (858993459)), (462, Cond.constant RJ6 267 (252645135)), (520, Cond.constant RX0 43 (16777215)), (195, Cond.fieldLink RX0 15 "FortressWatch$Chooser" "seers" "[I"), (612, Cond.code yX0_search cX0_search 9 (some .int)), (610, Cond.methodLink RX0 50 yX0_search), (611, Cond.static yX0_search), (618, Cond.code yX0_fewestSeers cX0_fewestSeers 6 (some .int)), (616, Cond.methodLink RX0 58 yX0_fewestSeers)]
set_option maxRecDepth 20000 in
theorem Qt0 : qt0.all (fun q => decide (lw_tbl[q.1]? = some q.2) && goodWord q.2) = true := by decide +kernel
theorem w_196 : Cond.fieldLink RX0 18 "FortressWatch$Chooser" "best" "I" ∈ TB := qg Qt0 0 rfl
theorem w_198 : Cond.fieldLink RX0 22 "FortressWatch$Chooser" "ways" "I" ∈ TB := qg Qt0 1 rfl
theorem w_200 : Cond.fieldLink RX0 25 "FortressWatch$Chooser" "inEach" "I" ∈ TB := qg Qt0 2 rfl
theorem w_178 : Cond.fieldLink RX0 28 "FortressWatch$Sights" "posts" "I" ∈ TB := qg Qt0 3 rfl
theorem w_517 : Cond.code yX0_fillSets cX0_fillSets 6 none ∈ TB := qg Qt0 4 rfl
theorem w_514 : Cond.methodLink RX0 33 yX0_fillSets ∈ TB := qg Qt0 5 rfl
theorem w_516 : Cond.instanceMethod yX0_fillSets ∈ TB := qg Qt0 6 rfl
theorem w_14 : Cond.selects RX0 yX0_fillSets yX0_fillSets ∈ TB := qg Qt0 7 rfl
theorem w_78 : Cond.initialized RX0 ∈ TB := qg Qt0 8 rfl
theorem w_194 : Cond.fieldLink RX0 9 "FortressWatch$Chooser" "seenBySet" "[I" ∈ TB := qg Qt0 9 rfl
theorem w_456 : Cond.code yX6_of cX6_of 2 (some .int) ∈ TB := qg Qt0 10 rfl
theorem w_518 : Cond.methodLink RX0 44 yX6_of ∈ TB := qg Qt0 11 rfl
theorem w_454 : Cond.instanceMethod yX6_of ∈ TB := qg Qt0 12 rfl
theorem w_455 : Cond.selects RX6 yX6_of yX6_of ∈ TB := qg Qt0 13 rfl
theorem w_77 : Cond.initialized RX6 ∈ TB := qg Qt0 14 rfl
theorem w_176 : Cond.fieldLink RX6 9 "FortressWatch$Sights" "row" "[I" ∈ TB := qg Qt0 15 rfl
theorem w_459 : Cond.code yJ6_bitCount_0f7a4 cJ6_bitCount_0f7a4 1 (some .int) ∈ TB := qg Qt0 16 rfl
theorem w_519 : Cond.methodLink RX0 37 yJ6_bitCount_0f7a4 ∈ TB := qg Qt0 17 rfl
theorem w_458 : Cond.static yJ6_bitCount_0f7a4 ∈ TB := qg Qt0 18 rfl
theorem w_86 : Cond.initialized RJ6 ∈ TB := qg Qt0 19 rfl
theorem w_460 : Cond.constant RJ6 265 (1431655765) ∈ TB := qg Qt0 20 rfl
theorem w_461 : Cond.constant RJ6 266 (858993459) ∈ TB := qg Qt0 21 rfl
theorem w_462 : Cond.constant RJ6 267 (252645135) ∈ TB := qg Qt0 22 rfl
theorem w_520 : Cond.constant RX0 43 (16777215) ∈ TB := qg Qt0 23 rfl
theorem w_195 : Cond.fieldLink RX0 15 "FortressWatch$Chooser" "seers" "[I" ∈ TB := qg Qt0 24 rfl
theorem w_612 : Cond.code yX0_search cX0_search 9 (some .int) ∈ TB := qg Qt0 25 rfl
theorem w_610 : Cond.methodLink RX0 50 yX0_search ∈ TB := qg Qt0 26 rfl
theorem w_611 : Cond.static yX0_search ∈ TB := qg Qt0 27 rfl
theorem w_618 : Cond.code yX0_fewestSeers cX0_fewestSeers 6 (some .int) ∈ TB := qg Qt0 28 rfl
theorem w_616 : Cond.methodLink RX0 58 yX0_fewestSeers ∈ TB := qg Qt0 29 rfl
def qt1 : List (Nat × Cond) := [(617, Cond.static yX0_fewestSeers), (489, Cond.code yX9_isIn cX9_isIn 2 (some .boolean)), (488, Cond.static yX9_isIn), (74, Cond.initialized RX9), (615, Cond.code yX0_better cX0_better 3 (some .int)), (613, Cond.methodLink RX0 54 yX0_better), (614, Cond.static yX0_better), (554, Cond.code yX6_seersOf cX6_seersOf 4 (some .int)), (609, Cond.methodLink RX0 47 yX6_seersOf), (552, Cond.instanceMethod yX6_seersOf), (553, Cond.selects RX6 yX6_seersOf yX6_seersOf), (221, Cond.fieldLink RX1 18 "FortressWatch$Gaps" "many" "I"), (573, Cond.code yX9_turned cX9_turned 2 (some .int)), (572, Cond.static yX9_turned), (574, Cond.constant RX9 206 (16777215)), (578, Cond.code yX1_openFrom cX1_openFrom 4 (some .int)), (576, Cond.methodLink RX1 34 yX1_openFrom), (577, Cond.static yX1_openFrom), (79, Cond.initialized RX1), (570, Cond.code yX1_add cX1_add 3 none), (567, Cond.methodLink RX1 22 yX1_add), (569, Cond.instanceMethod yX1_add), (16, Cond.selects RX1 yX1_add yX1_add), (219, Cond.fieldLink RX1 9 "FortressWatch$Gaps" "first" "[I"), (220, Cond.fieldLink RX1 15 "FortressWatch$Gaps" "length" "[I"), (582, Cond.code yX1_isGap cX1_isGap 2 (some .boolean)), (587, Cond.methodLink RX1 37 yX1_isGap), (580, Cond.instanceMethod yX1_isGap), (581, Cond.selects RX1 yX1_isGap yX1_isGap), (591, Cond.code yX1_lengthOf cX1_lengthOf 2 (some .int))]
set_option maxRecDepth 20000 in
theorem Qt1 : qt1.all (fun q => decide (lw_tbl[q.1]? = some q.2) && goodWord q.2) = true := by decide +kernel
theorem w_617 : Cond.static yX0_fewestSeers ∈ TB := qg Qt1 0 rfl
theorem w_489 : Cond.code yX9_isIn cX9_isIn 2 (some .boolean) ∈ TB := qg Qt1 1 rfl
theorem w_488 : Cond.static yX9_isIn ∈ TB := qg Qt1 2 rfl
theorem w_74 : Cond.initialized RX9 ∈ TB := qg Qt1 3 rfl
theorem w_615 : Cond.code yX0_better cX0_better 3 (some .int) ∈ TB := qg Qt1 4 rfl
theorem w_613 : Cond.methodLink RX0 54 yX0_better ∈ TB := qg Qt1 5 rfl
theorem w_614 : Cond.static yX0_better ∈ TB := qg Qt1 6 rfl
theorem w_554 : Cond.code yX6_seersOf cX6_seersOf 4 (some .int) ∈ TB := qg Qt1 7 rfl
theorem w_609 : Cond.methodLink RX0 47 yX6_seersOf ∈ TB := qg Qt1 8 rfl
theorem w_552 : Cond.instanceMethod yX6_seersOf ∈ TB := qg Qt1 9 rfl
theorem w_553 : Cond.selects RX6 yX6_seersOf yX6_seersOf ∈ TB := qg Qt1 10 rfl
theorem w_221 : Cond.fieldLink RX1 18 "FortressWatch$Gaps" "many" "I" ∈ TB := qg Qt1 11 rfl
theorem w_573 : Cond.code yX9_turned cX9_turned 2 (some .int) ∈ TB := qg Qt1 12 rfl
theorem w_572 : Cond.static yX9_turned ∈ TB := qg Qt1 13 rfl
theorem w_574 : Cond.constant RX9 206 (16777215) ∈ TB := qg Qt1 14 rfl
theorem w_578 : Cond.code yX1_openFrom cX1_openFrom 4 (some .int) ∈ TB := qg Qt1 15 rfl
theorem w_576 : Cond.methodLink RX1 34 yX1_openFrom ∈ TB := qg Qt1 16 rfl
theorem w_577 : Cond.static yX1_openFrom ∈ TB := qg Qt1 17 rfl
theorem w_79 : Cond.initialized RX1 ∈ TB := qg Qt1 18 rfl
theorem w_570 : Cond.code yX1_add cX1_add 3 none ∈ TB := qg Qt1 19 rfl
theorem w_567 : Cond.methodLink RX1 22 yX1_add ∈ TB := qg Qt1 20 rfl
theorem w_569 : Cond.instanceMethod yX1_add ∈ TB := qg Qt1 21 rfl
theorem w_16 : Cond.selects RX1 yX1_add yX1_add ∈ TB := qg Qt1 22 rfl
theorem w_219 : Cond.fieldLink RX1 9 "FortressWatch$Gaps" "first" "[I" ∈ TB := qg Qt1 23 rfl
theorem w_220 : Cond.fieldLink RX1 15 "FortressWatch$Gaps" "length" "[I" ∈ TB := qg Qt1 24 rfl
theorem w_582 : Cond.code yX1_isGap cX1_isGap 2 (some .boolean) ∈ TB := qg Qt1 25 rfl
theorem w_587 : Cond.methodLink RX1 37 yX1_isGap ∈ TB := qg Qt1 26 rfl
theorem w_580 : Cond.instanceMethod yX1_isGap ∈ TB := qg Qt1 27 rfl
theorem w_581 : Cond.selects RX1 yX1_isGap yX1_isGap ∈ TB := qg Qt1 28 rfl
theorem w_591 : Cond.code yX1_lengthOf cX1_lengthOf 2 (some .int) ∈ TB := qg Qt1 29 rfl
def qt2 : List (Nat × Cond) := [(800, Cond.methodLink RX1 41 yX1_lengthOf), (589, Cond.instanceMethod yX1_lengthOf), (590, Cond.selects RX1 yX1_lengthOf yX1_lengthOf), (801, Cond.methodLink RX1 45 Lib.Math.max.name), (443, Cond.static Lib.Math.max.name), (85, Cond.initialized RJ9), (444, Cond.code Lib.Math.max.name Lib.Math.max.code 2 (some .int)), (280, Cond.fieldLink RX2 15 "FortressWatch$Line" "length" "I"), (279, Cond.fieldLink RX2 9 "FortressWatch$Line" "codes" "[I"), (688, Cond.code yX2_put cX2_put 2 none), (685, Cond.methodLink RX2 19 yX2_put), (686, Cond.instanceMethod yX2_put), (687, Cond.selects RX2 yX2_put yX2_put), (82, Cond.initialized RX2), (236, Cond.fieldLink RX3 9 "FortressWatch$Order" "key" "[I"), (672, Cond.code yX3_placeOf cX3_placeOf 5 (some .int)), (669, Cond.methodLink RX3 15 yX3_placeOf), (671, Cond.instanceMethod yX3_placeOf), (19, Cond.selects RX3 yX3_placeOf yX3_placeOf), (80, Cond.initialized RX3), (159, Cond.fieldLink RX4 11 "FortressWatch$Past" "walls" "[LFortressWatch$Wall;"), (160, Cond.fieldLink RX4 18 "FortressWatch$Past" "top" "I"), (350, Cond.code yX8_copyFrom cX8_copyFrom 3 none), (390, Cond.methodLink RX4 22 yX8_copyFrom), (348, Cond.instanceMethod yX8_copyFrom), (349, Cond.selects RX8 yX8_copyFrom yX8_copyFrom), (75, Cond.initialized RX8), (119, Cond.fieldLink RX8 38 "FortressWatch$Wall" "posts" "I"), (121, Cond.fieldLink RX8 42 "FortressWatch$Wall" "hour" "I"), (123, Cond.fieldLink RX8 45 "FortressWatch$Wall" "built" "I")]
set_option maxRecDepth 20000 in
theorem Qt2 : qt2.all (fun q => decide (lw_tbl[q.1]? = some q.2) && goodWord q.2) = true := by decide +kernel
theorem w_800 : Cond.methodLink RX1 41 yX1_lengthOf ∈ TB := qg Qt2 0 rfl
theorem w_589 : Cond.instanceMethod yX1_lengthOf ∈ TB := qg Qt2 1 rfl
theorem w_590 : Cond.selects RX1 yX1_lengthOf yX1_lengthOf ∈ TB := qg Qt2 2 rfl
theorem w_801 : Cond.methodLink RX1 45 Lib.Math.max.name ∈ TB := qg Qt2 3 rfl
theorem w_443 : Cond.static Lib.Math.max.name ∈ TB := qg Qt2 4 rfl
theorem w_85 : Cond.initialized RJ9 ∈ TB := qg Qt2 5 rfl
theorem w_444 : Cond.code Lib.Math.max.name Lib.Math.max.code 2 (some .int) ∈ TB := qg Qt2 6 rfl
theorem w_280 : Cond.fieldLink RX2 15 "FortressWatch$Line" "length" "I" ∈ TB := qg Qt2 7 rfl
theorem w_279 : Cond.fieldLink RX2 9 "FortressWatch$Line" "codes" "[I" ∈ TB := qg Qt2 8 rfl
theorem w_688 : Cond.code yX2_put cX2_put 2 none ∈ TB := qg Qt2 9 rfl
theorem w_685 : Cond.methodLink RX2 19 yX2_put ∈ TB := qg Qt2 10 rfl
theorem w_686 : Cond.instanceMethod yX2_put ∈ TB := qg Qt2 11 rfl
theorem w_687 : Cond.selects RX2 yX2_put yX2_put ∈ TB := qg Qt2 12 rfl
theorem w_82 : Cond.initialized RX2 ∈ TB := qg Qt2 13 rfl
theorem w_236 : Cond.fieldLink RX3 9 "FortressWatch$Order" "key" "[I" ∈ TB := qg Qt2 14 rfl
theorem w_672 : Cond.code yX3_placeOf cX3_placeOf 5 (some .int) ∈ TB := qg Qt2 15 rfl
theorem w_669 : Cond.methodLink RX3 15 yX3_placeOf ∈ TB := qg Qt2 16 rfl
theorem w_671 : Cond.instanceMethod yX3_placeOf ∈ TB := qg Qt2 17 rfl
theorem w_19 : Cond.selects RX3 yX3_placeOf yX3_placeOf ∈ TB := qg Qt2 18 rfl
theorem w_80 : Cond.initialized RX3 ∈ TB := qg Qt2 19 rfl
theorem w_159 : Cond.fieldLink RX4 11 "FortressWatch$Past" "walls" "[LFortressWatch$Wall;" ∈ TB := qg Qt2 20 rfl
theorem w_160 : Cond.fieldLink RX4 18 "FortressWatch$Past" "top" "I" ∈ TB := qg Qt2 21 rfl
theorem w_350 : Cond.code yX8_copyFrom cX8_copyFrom 3 none ∈ TB := qg Qt2 22 rfl
theorem w_390 : Cond.methodLink RX4 22 yX8_copyFrom ∈ TB := qg Qt2 23 rfl
theorem w_348 : Cond.instanceMethod yX8_copyFrom ∈ TB := qg Qt2 24 rfl
theorem w_349 : Cond.selects RX8 yX8_copyFrom yX8_copyFrom ∈ TB := qg Qt2 25 rfl
theorem w_75 : Cond.initialized RX8 ∈ TB := qg Qt2 26 rfl
theorem w_119 : Cond.fieldLink RX8 38 "FortressWatch$Wall" "posts" "I" ∈ TB := qg Qt2 27 rfl
theorem w_121 : Cond.fieldLink RX8 42 "FortressWatch$Wall" "hour" "I" ∈ TB := qg Qt2 28 rfl
theorem w_123 : Cond.fieldLink RX8 45 "FortressWatch$Wall" "built" "I" ∈ TB := qg Qt2 29 rfl
def qt3 : List (Nat × Cond) := [(124, Cond.fieldLink RX8 48 "FortressWatch$Wall" "torn" "I"), (125, Cond.fieldLink RX8 51 "FortressWatch$Wall" "timesManned" "I"), (354, Cond.code yX8_copyPlace cX8_copyPlace 4 none), (351, Cond.methodLink RX8 34 yX8_copyPlace), (353, Cond.instanceMethod yX8_copyPlace), (1, Cond.selects RX8 yX8_copyPlace yX8_copyPlace), (106, Cond.fieldLink RX8 9 "FortressWatch$Wall" "stone" "[I"), (107, Cond.fieldLink RX8 15 "FortressWatch$Wall" "left" "[I"), (109, Cond.fieldLink RX8 18 "FortressWatch$Wall" "right" "[I"), (111, Cond.fieldLink RX8 21 "FortressWatch$Wall" "blindFrom" "[I"), (113, Cond.fieldLink RX8 24 "FortressWatch$Wall" "blindMany" "[I"), (115, Cond.fieldLink RX8 27 "FortressWatch$Wall" "manned" "[I"), (161, Cond.fieldLink RX4 26 "FortressWatch$Past" "many" "I"), (391, Cond.methodLink RX4 29 Lib.Math.min.name), (392, Cond.static Lib.Math.min.name), (393, Cond.code Lib.Math.min.name Lib.Math.min.code 2 (some .int)), (293, Cond.fieldLink RX5 9 "FortressWatch$Refused" "reason" "I"), (294, Cond.fieldLink RX5 15 "FortressWatch$Refused" "detail" "I"), (295, Cond.fieldLink RX5 18 "FortressWatch$Refused" "command" "I"), (118, Cond.fieldLink RX6 15 "FortressWatch$Wall" "posts" "I"), (177, Cond.fieldLink RX6 21 "FortressWatch$Sights" "posts" "I"), (179, Cond.fieldLink RX6 22 "FortressWatch$Sights" "manned" "I"), (437, Cond.code yX8_sightOf cX8_sightOf 8 (some .int)), (434, Cond.methodLink RX6 25 yX8_sightOf), (435, Cond.instanceMethod yX8_sightOf), (436, Cond.selects RX8 yX8_sightOf yX8_sightOf), (405, Cond.code yX8_isPost cX8_isPost 2 (some .boolean)), (438, Cond.methodLink RX8 58 yX8_isPost), (403, Cond.instanceMethod yX8_isPost), (404, Cond.selects RX8 yX8_isPost yX8_isPost)]
set_option maxRecDepth 20000 in
theorem Qt3 : qt3.all (fun q => decide (lw_tbl[q.1]? = some q.2) && goodWord q.2) = true := by decide +kernel
theorem w_124 : Cond.fieldLink RX8 48 "FortressWatch$Wall" "torn" "I" ∈ TB := qg Qt3 0 rfl
theorem w_125 : Cond.fieldLink RX8 51 "FortressWatch$Wall" "timesManned" "I" ∈ TB := qg Qt3 1 rfl
theorem w_354 : Cond.code yX8_copyPlace cX8_copyPlace 4 none ∈ TB := qg Qt3 2 rfl
theorem w_351 : Cond.methodLink RX8 34 yX8_copyPlace ∈ TB := qg Qt3 3 rfl
theorem w_353 : Cond.instanceMethod yX8_copyPlace ∈ TB := qg Qt3 4 rfl
theorem w_1 : Cond.selects RX8 yX8_copyPlace yX8_copyPlace ∈ TB := qg Qt3 5 rfl
theorem w_106 : Cond.fieldLink RX8 9 "FortressWatch$Wall" "stone" "[I" ∈ TB := qg Qt3 6 rfl
theorem w_107 : Cond.fieldLink RX8 15 "FortressWatch$Wall" "left" "[I" ∈ TB := qg Qt3 7 rfl
theorem w_109 : Cond.fieldLink RX8 18 "FortressWatch$Wall" "right" "[I" ∈ TB := qg Qt3 8 rfl
theorem w_111 : Cond.fieldLink RX8 21 "FortressWatch$Wall" "blindFrom" "[I" ∈ TB := qg Qt3 9 rfl
theorem w_113 : Cond.fieldLink RX8 24 "FortressWatch$Wall" "blindMany" "[I" ∈ TB := qg Qt3 10 rfl
theorem w_115 : Cond.fieldLink RX8 27 "FortressWatch$Wall" "manned" "[I" ∈ TB := qg Qt3 11 rfl
theorem w_161 : Cond.fieldLink RX4 26 "FortressWatch$Past" "many" "I" ∈ TB := qg Qt3 12 rfl
theorem w_391 : Cond.methodLink RX4 29 Lib.Math.min.name ∈ TB := qg Qt3 13 rfl
theorem w_392 : Cond.static Lib.Math.min.name ∈ TB := qg Qt3 14 rfl
theorem w_393 : Cond.code Lib.Math.min.name Lib.Math.min.code 2 (some .int) ∈ TB := qg Qt3 15 rfl
theorem w_293 : Cond.fieldLink RX5 9 "FortressWatch$Refused" "reason" "I" ∈ TB := qg Qt3 16 rfl
theorem w_294 : Cond.fieldLink RX5 15 "FortressWatch$Refused" "detail" "I" ∈ TB := qg Qt3 17 rfl
theorem w_295 : Cond.fieldLink RX5 18 "FortressWatch$Refused" "command" "I" ∈ TB := qg Qt3 18 rfl
theorem w_118 : Cond.fieldLink RX6 15 "FortressWatch$Wall" "posts" "I" ∈ TB := qg Qt3 19 rfl
theorem w_177 : Cond.fieldLink RX6 21 "FortressWatch$Sights" "posts" "I" ∈ TB := qg Qt3 20 rfl
theorem w_179 : Cond.fieldLink RX6 22 "FortressWatch$Sights" "manned" "I" ∈ TB := qg Qt3 21 rfl
theorem w_437 : Cond.code yX8_sightOf cX8_sightOf 8 (some .int) ∈ TB := qg Qt3 22 rfl
theorem w_434 : Cond.methodLink RX6 25 yX8_sightOf ∈ TB := qg Qt3 23 rfl
theorem w_435 : Cond.instanceMethod yX8_sightOf ∈ TB := qg Qt3 24 rfl
theorem w_436 : Cond.selects RX8 yX8_sightOf yX8_sightOf ∈ TB := qg Qt3 25 rfl
theorem w_405 : Cond.code yX8_isPost cX8_isPost 2 (some .boolean) ∈ TB := qg Qt3 26 rfl
theorem w_438 : Cond.methodLink RX8 58 yX8_isPost ∈ TB := qg Qt3 27 rfl
theorem w_403 : Cond.instanceMethod yX8_isPost ∈ TB := qg Qt3 28 rfl
theorem w_404 : Cond.selects RX8 yX8_isPost yX8_isPost ∈ TB := qg Qt3 29 rfl
def qt4 : List (Nat × Cond) := [(441, Cond.code yX8_lostByLight cX8_lostByLight 1 (some .int)), (439, Cond.methodLink RX8 62 yX8_lostByLight), (440, Cond.static yX8_lostByLight), (442, Cond.methodLink RX8 65 Lib.Math.max.name), (447, Cond.code yX9_stretch cX9_stretch 4 (some .int)), (446, Cond.static yX9_stretch), (448, Cond.constantLong RX9 361 (16777215)), (116, Cond.fieldLink RX6 29 "FortressWatch$Wall" "manned" "[I"), (453, Cond.methodLink RX6 31 yX6_of), (457, Cond.methodLink RX6 35 yJ6_bitCount_0f7a4), (486, Cond.code yX6_seenBySet cX6_seenBySet 4 (some .int)), (541, Cond.methodLink RX6 40 yX6_seenBySet), (484, Cond.instanceMethod yX6_seenBySet), (485, Cond.selects RX6 yX6_seenBySet yX6_seenBySet), (248, Cond.fieldLink RX7 15 "FortressWatch$Text" "length" "I"), (246, Cond.fieldLink RX7 9 "FortressWatch$Text" "codes" "[I"), (247, Cond.fieldLink RX7 19 "FortressWatch$Text" "at" "I"), (728, Cond.code yX7_rewind cX7_rewind 1 none), (725, Cond.methodLink RX7 22 yX7_rewind), (726, Cond.instanceMethod yX7_rewind), (727, Cond.selects RX7 yX7_rewind yX7_rewind), (81, Cond.initialized RX7), (732, Cond.code yX7_takeCommand cX7_takeCommand 1 (some .boolean)), (729, Cond.methodLink RX7 25 yX7_takeCommand), (730, Cond.instanceMethod yX7_takeCommand), (731, Cond.selects RX7 yX7_takeCommand yX7_takeCommand), (736, Cond.code yX7_codeHere cX7_codeHere 1 (some .int)), (733, Cond.methodLink RX7 33 yX7_codeHere), (735, Cond.instanceMethod yX7_codeHere), (21, Cond.selects RX7 yX7_codeHere yX7_codeHere)]
set_option maxRecDepth 20000 in
theorem Qt4 : qt4.all (fun q => decide (lw_tbl[q.1]? = some q.2) && goodWord q.2) = true := by decide +kernel
theorem w_441 : Cond.code yX8_lostByLight cX8_lostByLight 1 (some .int) ∈ TB := qg Qt4 0 rfl
theorem w_439 : Cond.methodLink RX8 62 yX8_lostByLight ∈ TB := qg Qt4 1 rfl
theorem w_440 : Cond.static yX8_lostByLight ∈ TB := qg Qt4 2 rfl
theorem w_442 : Cond.methodLink RX8 65 Lib.Math.max.name ∈ TB := qg Qt4 3 rfl
theorem w_447 : Cond.code yX9_stretch cX9_stretch 4 (some .int) ∈ TB := qg Qt4 4 rfl
theorem w_446 : Cond.static yX9_stretch ∈ TB := qg Qt4 5 rfl
theorem w_448 : Cond.constantLong RX9 361 (16777215) ∈ TB := qg Qt4 6 rfl
theorem w_116 : Cond.fieldLink RX6 29 "FortressWatch$Wall" "manned" "[I" ∈ TB := qg Qt4 7 rfl
theorem w_453 : Cond.methodLink RX6 31 yX6_of ∈ TB := qg Qt4 8 rfl
theorem w_457 : Cond.methodLink RX6 35 yJ6_bitCount_0f7a4 ∈ TB := qg Qt4 9 rfl
theorem w_486 : Cond.code yX6_seenBySet cX6_seenBySet 4 (some .int) ∈ TB := qg Qt4 10 rfl
theorem w_541 : Cond.methodLink RX6 40 yX6_seenBySet ∈ TB := qg Qt4 11 rfl
theorem w_484 : Cond.instanceMethod yX6_seenBySet ∈ TB := qg Qt4 12 rfl
theorem w_485 : Cond.selects RX6 yX6_seenBySet yX6_seenBySet ∈ TB := qg Qt4 13 rfl
theorem w_248 : Cond.fieldLink RX7 15 "FortressWatch$Text" "length" "I" ∈ TB := qg Qt4 14 rfl
theorem w_246 : Cond.fieldLink RX7 9 "FortressWatch$Text" "codes" "[I" ∈ TB := qg Qt4 15 rfl
theorem w_247 : Cond.fieldLink RX7 19 "FortressWatch$Text" "at" "I" ∈ TB := qg Qt4 16 rfl
theorem w_728 : Cond.code yX7_rewind cX7_rewind 1 none ∈ TB := qg Qt4 17 rfl
theorem w_725 : Cond.methodLink RX7 22 yX7_rewind ∈ TB := qg Qt4 18 rfl
theorem w_726 : Cond.instanceMethod yX7_rewind ∈ TB := qg Qt4 19 rfl
theorem w_727 : Cond.selects RX7 yX7_rewind yX7_rewind ∈ TB := qg Qt4 20 rfl
theorem w_81 : Cond.initialized RX7 ∈ TB := qg Qt4 21 rfl
theorem w_732 : Cond.code yX7_takeCommand cX7_takeCommand 1 (some .boolean) ∈ TB := qg Qt4 22 rfl
theorem w_729 : Cond.methodLink RX7 25 yX7_takeCommand ∈ TB := qg Qt4 23 rfl
theorem w_730 : Cond.instanceMethod yX7_takeCommand ∈ TB := qg Qt4 24 rfl
theorem w_731 : Cond.selects RX7 yX7_takeCommand yX7_takeCommand ∈ TB := qg Qt4 25 rfl
theorem w_736 : Cond.code yX7_codeHere cX7_codeHere 1 (some .int) ∈ TB := qg Qt4 26 rfl
theorem w_733 : Cond.methodLink RX7 33 yX7_codeHere ∈ TB := qg Qt4 27 rfl
theorem w_735 : Cond.instanceMethod yX7_codeHere ∈ TB := qg Qt4 28 rfl
theorem w_21 : Cond.selects RX7 yX7_codeHere yX7_codeHere ∈ TB := qg Qt4 29 rfl
def qt5 : List (Nat × Cond) := [(250, Cond.fieldLink RX7 37 "FortressWatch$Text" "letter" "I"), (740, Cond.code yX7_skip cX7_skip 2 (some .boolean)), (737, Cond.methodLink RX7 29 yX7_skip), (738, Cond.instanceMethod yX7_skip), (739, Cond.selects RX7 yX7_skip yX7_skip), (744, Cond.code yX7_takeFirst cX7_takeFirst 2 (some .boolean)), (741, Cond.methodLink RX7 40 yX7_takeFirst), (743, Cond.instanceMethod yX7_takeFirst), (22, Cond.selects RX7 yX7_takeFirst yX7_takeFirst), (748, Cond.code yX7_takeNumber cX7_takeNumber 5 (some .int)), (745, Cond.methodLink RX7 49 yX7_takeNumber), (747, Cond.instanceMethod yX7_takeNumber), (23, Cond.selects RX7 yX7_takeNumber yX7_takeNumber), (252, Cond.fieldLink RX7 53 "FortressWatch$Text" "first" "I"), (752, Cond.code yX7_takeSecond cX7_takeSecond 2 (some .boolean)), (749, Cond.methodLink RX7 43 yX7_takeSecond), (751, Cond.instanceMethod yX7_takeSecond), (24, Cond.selects RX7 yX7_takeSecond yX7_takeSecond), (254, Cond.fieldLink RX7 56 "FortressWatch$Text" "second" "I"), (756, Cond.code yX7_takeThird cX7_takeThird 2 (some .boolean)), (753, Cond.methodLink RX7 46 yX7_takeThird), (755, Cond.instanceMethod yX7_takeThird), (25, Cond.selects RX7 yX7_takeThird yX7_takeThird), (256, Cond.fieldLink RX7 59 "FortressWatch$Text" "third" "I"), (368, Cond.code yX8_postOn cX8_postOn 3 (some .int)), (381, Cond.methodLink RX8 54 yX8_postOn), (366, Cond.instanceMethod yX8_postOn), (367, Cond.selects RX8 yX8_postOn yX8_postOn), (105, Cond.code yX8_empty cX8_empty 2 none), (102, Cond.methodLink RX8 30 yX8_empty)]
set_option maxRecDepth 20000 in
theorem Qt5 : qt5.all (fun q => decide (lw_tbl[q.1]? = some q.2) && goodWord q.2) = true := by decide +kernel
theorem w_250 : Cond.fieldLink RX7 37 "FortressWatch$Text" "letter" "I" ∈ TB := qg Qt5 0 rfl
theorem w_740 : Cond.code yX7_skip cX7_skip 2 (some .boolean) ∈ TB := qg Qt5 1 rfl
theorem w_737 : Cond.methodLink RX7 29 yX7_skip ∈ TB := qg Qt5 2 rfl
theorem w_738 : Cond.instanceMethod yX7_skip ∈ TB := qg Qt5 3 rfl
theorem w_739 : Cond.selects RX7 yX7_skip yX7_skip ∈ TB := qg Qt5 4 rfl
theorem w_744 : Cond.code yX7_takeFirst cX7_takeFirst 2 (some .boolean) ∈ TB := qg Qt5 5 rfl
theorem w_741 : Cond.methodLink RX7 40 yX7_takeFirst ∈ TB := qg Qt5 6 rfl
theorem w_743 : Cond.instanceMethod yX7_takeFirst ∈ TB := qg Qt5 7 rfl
theorem w_22 : Cond.selects RX7 yX7_takeFirst yX7_takeFirst ∈ TB := qg Qt5 8 rfl
theorem w_748 : Cond.code yX7_takeNumber cX7_takeNumber 5 (some .int) ∈ TB := qg Qt5 9 rfl
theorem w_745 : Cond.methodLink RX7 49 yX7_takeNumber ∈ TB := qg Qt5 10 rfl
theorem w_747 : Cond.instanceMethod yX7_takeNumber ∈ TB := qg Qt5 11 rfl
theorem w_23 : Cond.selects RX7 yX7_takeNumber yX7_takeNumber ∈ TB := qg Qt5 12 rfl
theorem w_252 : Cond.fieldLink RX7 53 "FortressWatch$Text" "first" "I" ∈ TB := qg Qt5 13 rfl
theorem w_752 : Cond.code yX7_takeSecond cX7_takeSecond 2 (some .boolean) ∈ TB := qg Qt5 14 rfl
theorem w_749 : Cond.methodLink RX7 43 yX7_takeSecond ∈ TB := qg Qt5 15 rfl
theorem w_751 : Cond.instanceMethod yX7_takeSecond ∈ TB := qg Qt5 16 rfl
theorem w_24 : Cond.selects RX7 yX7_takeSecond yX7_takeSecond ∈ TB := qg Qt5 17 rfl
theorem w_254 : Cond.fieldLink RX7 56 "FortressWatch$Text" "second" "I" ∈ TB := qg Qt5 18 rfl
theorem w_756 : Cond.code yX7_takeThird cX7_takeThird 2 (some .boolean) ∈ TB := qg Qt5 19 rfl
theorem w_753 : Cond.methodLink RX7 46 yX7_takeThird ∈ TB := qg Qt5 20 rfl
theorem w_755 : Cond.instanceMethod yX7_takeThird ∈ TB := qg Qt5 21 rfl
theorem w_25 : Cond.selects RX7 yX7_takeThird yX7_takeThird ∈ TB := qg Qt5 22 rfl
theorem w_256 : Cond.fieldLink RX7 59 "FortressWatch$Text" "third" "I" ∈ TB := qg Qt5 23 rfl
theorem w_368 : Cond.code yX8_postOn cX8_postOn 3 (some .int) ∈ TB := qg Qt5 24 rfl
theorem w_381 : Cond.methodLink RX8 54 yX8_postOn ∈ TB := qg Qt5 25 rfl
theorem w_366 : Cond.instanceMethod yX8_postOn ∈ TB := qg Qt5 26 rfl
theorem w_367 : Cond.selects RX8 yX8_postOn yX8_postOn ∈ TB := qg Qt5 27 rfl
theorem w_105 : Cond.code yX8_empty cX8_empty 2 none ∈ TB := qg Qt5 28 rfl
theorem w_102 : Cond.methodLink RX8 30 yX8_empty ∈ TB := qg Qt5 29 rfl
def qt6 : List (Nat × Cond) := [(104, Cond.instanceMethod yX8_empty), (0, Cond.selects RX8 yX8_empty yX8_empty), (304, Cond.fieldLink RX9 16 "FortressWatch" "before" "LFortressWatch$Wall;"), (303, Cond.fieldLink RX9 10 "FortressWatch" "wall" "LFortressWatch$Wall;"), (347, Cond.methodLink RX9 86 yX8_copyFrom), (358, Cond.code yX9_buildPost cX9_buildPost 5 (some .int)), (355, Cond.methodLink RX9 90 yX9_buildPost), (357, Cond.instanceMethod yX9_buildPost), (2, Cond.selects RX9 yX9_buildPost yX9_buildPost), (361, Cond.code yX9_isStone cX9_isStone 1 (some .boolean)), (359, Cond.methodLink RX9 154 yX9_isStone), (360, Cond.static yX9_isStone), (364, Cond.code yX9_isReach cX9_isReach 1 (some .boolean)), (362, Cond.methodLink RX9 293 yX9_isReach), (363, Cond.static yX9_isReach), (365, Cond.methodLink RX9 296 yX8_postOn), (120, Cond.fieldLink RX9 203 "FortressWatch$Wall" "posts" "I"), (380, Cond.code yX8_add cX8_add 5 (some .int)), (377, Cond.methodLink RX9 302 yX8_add), (378, Cond.instanceMethod yX8_add), (379, Cond.selects RX8 yX8_add yX8_add), (372, Cond.code yX9_refuse cX9_refuse 3 (some .int)), (369, Cond.methodLink RX9 299 yX9_refuse), (371, Cond.instanceMethod yX9_refuse), (3, Cond.selects RX9 yX9_refuse yX9_refuse), (313, Cond.fieldLink RX9 74 "FortressWatch" "refused" "LFortressWatch$Refused;"), (315, Cond.fieldLink RX9 82 "FortressWatch" "commandNow" "I"), (376, Cond.code yX5_tell cX5_tell 4 none), (373, Cond.methodLink RX9 289 yX5_tell), (374, Cond.instanceMethod yX5_tell)]
set_option maxRecDepth 20000 in
theorem Qt6 : qt6.all (fun q => decide (lw_tbl[q.1]? = some q.2) && goodWord q.2) = true := by decide +kernel
theorem w_104 : Cond.instanceMethod yX8_empty ∈ TB := qg Qt6 0 rfl
theorem w_0 : Cond.selects RX8 yX8_empty yX8_empty ∈ TB := qg Qt6 1 rfl
theorem w_304 : Cond.fieldLink RX9 16 "FortressWatch" "before" "LFortressWatch$Wall;" ∈ TB := qg Qt6 2 rfl
theorem w_303 : Cond.fieldLink RX9 10 "FortressWatch" "wall" "LFortressWatch$Wall;" ∈ TB := qg Qt6 3 rfl
theorem w_347 : Cond.methodLink RX9 86 yX8_copyFrom ∈ TB := qg Qt6 4 rfl
theorem w_358 : Cond.code yX9_buildPost cX9_buildPost 5 (some .int) ∈ TB := qg Qt6 5 rfl
theorem w_355 : Cond.methodLink RX9 90 yX9_buildPost ∈ TB := qg Qt6 6 rfl
theorem w_357 : Cond.instanceMethod yX9_buildPost ∈ TB := qg Qt6 7 rfl
theorem w_2 : Cond.selects RX9 yX9_buildPost yX9_buildPost ∈ TB := qg Qt6 8 rfl
theorem w_361 : Cond.code yX9_isStone cX9_isStone 1 (some .boolean) ∈ TB := qg Qt6 9 rfl
theorem w_359 : Cond.methodLink RX9 154 yX9_isStone ∈ TB := qg Qt6 10 rfl
theorem w_360 : Cond.static yX9_isStone ∈ TB := qg Qt6 11 rfl
theorem w_364 : Cond.code yX9_isReach cX9_isReach 1 (some .boolean) ∈ TB := qg Qt6 12 rfl
theorem w_362 : Cond.methodLink RX9 293 yX9_isReach ∈ TB := qg Qt6 13 rfl
theorem w_363 : Cond.static yX9_isReach ∈ TB := qg Qt6 14 rfl
theorem w_365 : Cond.methodLink RX9 296 yX8_postOn ∈ TB := qg Qt6 15 rfl
theorem w_120 : Cond.fieldLink RX9 203 "FortressWatch$Wall" "posts" "I" ∈ TB := qg Qt6 16 rfl
theorem w_380 : Cond.code yX8_add cX8_add 5 (some .int) ∈ TB := qg Qt6 17 rfl
theorem w_377 : Cond.methodLink RX9 302 yX8_add ∈ TB := qg Qt6 18 rfl
theorem w_378 : Cond.instanceMethod yX8_add ∈ TB := qg Qt6 19 rfl
theorem w_379 : Cond.selects RX8 yX8_add yX8_add ∈ TB := qg Qt6 20 rfl
theorem w_372 : Cond.code yX9_refuse cX9_refuse 3 (some .int) ∈ TB := qg Qt6 21 rfl
theorem w_369 : Cond.methodLink RX9 299 yX9_refuse ∈ TB := qg Qt6 22 rfl
theorem w_371 : Cond.instanceMethod yX9_refuse ∈ TB := qg Qt6 23 rfl
theorem w_3 : Cond.selects RX9 yX9_refuse yX9_refuse ∈ TB := qg Qt6 24 rfl
theorem w_313 : Cond.fieldLink RX9 74 "FortressWatch" "refused" "LFortressWatch$Refused;" ∈ TB := qg Qt6 25 rfl
theorem w_315 : Cond.fieldLink RX9 82 "FortressWatch" "commandNow" "I" ∈ TB := qg Qt6 26 rfl
theorem w_376 : Cond.code yX5_tell cX5_tell 4 none ∈ TB := qg Qt6 27 rfl
theorem w_373 : Cond.methodLink RX9 289 yX5_tell ∈ TB := qg Qt6 28 rfl
theorem w_374 : Cond.instanceMethod yX5_tell ∈ TB := qg Qt6 29 rfl
def qt7 : List (Nat × Cond) := [(375, Cond.selects RX5 yX5_tell yX5_tell), (83, Cond.initialized RX5), (385, Cond.code yX9_kept cX9_kept 2 (some .int)), (382, Cond.methodLink RX9 94 yX9_kept), (384, Cond.instanceMethod yX9_kept), (4, Cond.selects RX9 yX9_kept yX9_kept), (306, Cond.fieldLink RX9 25 "FortressWatch" "past" "LFortressWatch$Past;"), (389, Cond.code yX4_keep cX4_keep 3 none), (386, Cond.methodLink RX9 286 yX4_keep), (387, Cond.instanceMethod yX4_keep), (388, Cond.selects RX4 yX4_keep yX4_keep), (76, Cond.initialized RX4), (401, Cond.code yX9_tearDown cX9_tearDown 2 (some .int)), (398, Cond.methodLink RX9 98 yX9_tearDown), (400, Cond.instanceMethod yX9_tearDown), (5, Cond.selects RX9 yX9_tearDown yX9_tearDown), (402, Cond.methodLink RX9 127 yX8_isPost), (409, Cond.code yX8_remove cX8_remove 3 none), (406, Cond.methodLink RX9 305 yX8_remove), (407, Cond.instanceMethod yX8_remove), (408, Cond.selects RX8 yX8_remove yX8_remove), (417, Cond.code yX9_tellReaches cX9_tellReaches 6 (some .int)), (414, Cond.methodLink RX9 101 yX9_tellReaches), (416, Cond.instanceMethod yX9_tellReaches), (6, Cond.selects RX9 yX9_tellReaches yX9_tellReaches), (108, Cond.fieldLink RX9 308 "FortressWatch$Wall" "left" "[I"), (110, Cond.fieldLink RX9 312 "FortressWatch$Wall" "right" "[I"), (425, Cond.code yX9_tellBlindAngle cX9_tellBlindAngle 4 (some .int)), (422, Cond.methodLink RX9 104 yX9_tellBlindAngle), (424, Cond.instanceMethod yX9_tellBlindAngle)]
set_option maxRecDepth 20000 in
theorem Qt7 : qt7.all (fun q => decide (lw_tbl[q.1]? = some q.2) && goodWord q.2) = true := by decide +kernel
theorem w_375 : Cond.selects RX5 yX5_tell yX5_tell ∈ TB := qg Qt7 0 rfl
theorem w_83 : Cond.initialized RX5 ∈ TB := qg Qt7 1 rfl
theorem w_385 : Cond.code yX9_kept cX9_kept 2 (some .int) ∈ TB := qg Qt7 2 rfl
theorem w_382 : Cond.methodLink RX9 94 yX9_kept ∈ TB := qg Qt7 3 rfl
theorem w_384 : Cond.instanceMethod yX9_kept ∈ TB := qg Qt7 4 rfl
theorem w_4 : Cond.selects RX9 yX9_kept yX9_kept ∈ TB := qg Qt7 5 rfl
theorem w_306 : Cond.fieldLink RX9 25 "FortressWatch" "past" "LFortressWatch$Past;" ∈ TB := qg Qt7 6 rfl
theorem w_389 : Cond.code yX4_keep cX4_keep 3 none ∈ TB := qg Qt7 7 rfl
theorem w_386 : Cond.methodLink RX9 286 yX4_keep ∈ TB := qg Qt7 8 rfl
theorem w_387 : Cond.instanceMethod yX4_keep ∈ TB := qg Qt7 9 rfl
theorem w_388 : Cond.selects RX4 yX4_keep yX4_keep ∈ TB := qg Qt7 10 rfl
theorem w_76 : Cond.initialized RX4 ∈ TB := qg Qt7 11 rfl
theorem w_401 : Cond.code yX9_tearDown cX9_tearDown 2 (some .int) ∈ TB := qg Qt7 12 rfl
theorem w_398 : Cond.methodLink RX9 98 yX9_tearDown ∈ TB := qg Qt7 13 rfl
theorem w_400 : Cond.instanceMethod yX9_tearDown ∈ TB := qg Qt7 14 rfl
theorem w_5 : Cond.selects RX9 yX9_tearDown yX9_tearDown ∈ TB := qg Qt7 15 rfl
theorem w_402 : Cond.methodLink RX9 127 yX8_isPost ∈ TB := qg Qt7 16 rfl
theorem w_409 : Cond.code yX8_remove cX8_remove 3 none ∈ TB := qg Qt7 17 rfl
theorem w_406 : Cond.methodLink RX9 305 yX8_remove ∈ TB := qg Qt7 18 rfl
theorem w_407 : Cond.instanceMethod yX8_remove ∈ TB := qg Qt7 19 rfl
theorem w_408 : Cond.selects RX8 yX8_remove yX8_remove ∈ TB := qg Qt7 20 rfl
theorem w_417 : Cond.code yX9_tellReaches cX9_tellReaches 6 (some .int) ∈ TB := qg Qt7 21 rfl
theorem w_414 : Cond.methodLink RX9 101 yX9_tellReaches ∈ TB := qg Qt7 22 rfl
theorem w_416 : Cond.instanceMethod yX9_tellReaches ∈ TB := qg Qt7 23 rfl
theorem w_6 : Cond.selects RX9 yX9_tellReaches yX9_tellReaches ∈ TB := qg Qt7 24 rfl
theorem w_108 : Cond.fieldLink RX9 308 "FortressWatch$Wall" "left" "[I" ∈ TB := qg Qt7 25 rfl
theorem w_110 : Cond.fieldLink RX9 312 "FortressWatch$Wall" "right" "[I" ∈ TB := qg Qt7 26 rfl
theorem w_425 : Cond.code yX9_tellBlindAngle cX9_tellBlindAngle 4 (some .int) ∈ TB := qg Qt7 27 rfl
theorem w_422 : Cond.methodLink RX9 104 yX9_tellBlindAngle ∈ TB := qg Qt7 28 rfl
theorem w_424 : Cond.instanceMethod yX9_tellBlindAngle ∈ TB := qg Qt7 29 rfl
def qt8 : List (Nat × Cond) := [(7, Cond.selects RX9 yX9_tellBlindAngle yX9_tellBlindAngle), (112, Cond.fieldLink RX9 315 "FortressWatch$Wall" "blindFrom" "[I"), (114, Cond.fieldLink RX9 318 "FortressWatch$Wall" "blindMany" "[I"), (429, Cond.code yX9_manySeenNow cX9_manySeenNow 2 (some .int)), (426, Cond.methodLink RX9 107 yX9_manySeenNow), (428, Cond.instanceMethod yX9_manySeenNow), (8, Cond.selects RX9 yX9_manySeenNow yX9_manySeenNow), (307, Cond.fieldLink RX9 32 "FortressWatch" "sights" "LFortressWatch$Sights;"), (122, Cond.fieldLink RX9 134 "FortressWatch$Wall" "hour" "I"), (433, Cond.code yX6_lookAt cX6_lookAt 4 none), (430, Cond.methodLink RX9 137 yX6_lookAt), (431, Cond.instanceMethod yX6_lookAt), (432, Cond.selects RX6 yX6_lookAt yX6_lookAt), (452, Cond.code yX6_manySeen cX6_manySeen 2 (some .int)), (449, Cond.methodLink RX9 141 yX6_manySeen), (450, Cond.instanceMethod yX6_manySeen), (451, Cond.selects RX6 yX6_manySeen yX6_manySeen), (470, Cond.code yX9_dropBlindAngle cX9_dropBlindAngle 2 (some .int)), (467, Cond.methodLink RX9 110 yX9_dropBlindAngle), (469, Cond.instanceMethod yX9_dropBlindAngle), (9, Cond.selects RX9 yX9_dropBlindAngle yX9_dropBlindAngle), (478, Cond.code yX9_letBeManned cX9_letBeManned 3 (some .int)), (475, Cond.methodLink RX9 113 yX9_letBeManned), (477, Cond.instanceMethod yX9_letBeManned), (10, Cond.selects RX9 yX9_letBeManned yX9_letBeManned), (117, Cond.fieldLink RX9 321 "FortressWatch$Wall" "manned" "[I"), (482, Cond.code yX9_manyWatchedNow cX9_manyWatchedNow 1 (some .int)), (479, Cond.methodLink RX9 117 yX9_manyWatchedNow), (481, Cond.instanceMethod yX9_manyWatchedNow), (11, Cond.selects RX9 yX9_manyWatchedNow yX9_manyWatchedNow)]
set_option maxRecDepth 20000 in
theorem Qt8 : qt8.all (fun q => decide (lw_tbl[q.1]? = some q.2) && goodWord q.2) = true := by decide +kernel
theorem w_7 : Cond.selects RX9 yX9_tellBlindAngle yX9_tellBlindAngle ∈ TB := qg Qt8 0 rfl
theorem w_112 : Cond.fieldLink RX9 315 "FortressWatch$Wall" "blindFrom" "[I" ∈ TB := qg Qt8 1 rfl
theorem w_114 : Cond.fieldLink RX9 318 "FortressWatch$Wall" "blindMany" "[I" ∈ TB := qg Qt8 2 rfl
theorem w_429 : Cond.code yX9_manySeenNow cX9_manySeenNow 2 (some .int) ∈ TB := qg Qt8 3 rfl
theorem w_426 : Cond.methodLink RX9 107 yX9_manySeenNow ∈ TB := qg Qt8 4 rfl
theorem w_428 : Cond.instanceMethod yX9_manySeenNow ∈ TB := qg Qt8 5 rfl
theorem w_8 : Cond.selects RX9 yX9_manySeenNow yX9_manySeenNow ∈ TB := qg Qt8 6 rfl
theorem w_307 : Cond.fieldLink RX9 32 "FortressWatch" "sights" "LFortressWatch$Sights;" ∈ TB := qg Qt8 7 rfl
theorem w_122 : Cond.fieldLink RX9 134 "FortressWatch$Wall" "hour" "I" ∈ TB := qg Qt8 8 rfl
theorem w_433 : Cond.code yX6_lookAt cX6_lookAt 4 none ∈ TB := qg Qt8 9 rfl
theorem w_430 : Cond.methodLink RX9 137 yX6_lookAt ∈ TB := qg Qt8 10 rfl
theorem w_431 : Cond.instanceMethod yX6_lookAt ∈ TB := qg Qt8 11 rfl
theorem w_432 : Cond.selects RX6 yX6_lookAt yX6_lookAt ∈ TB := qg Qt8 12 rfl
theorem w_452 : Cond.code yX6_manySeen cX6_manySeen 2 (some .int) ∈ TB := qg Qt8 13 rfl
theorem w_449 : Cond.methodLink RX9 141 yX6_manySeen ∈ TB := qg Qt8 14 rfl
theorem w_450 : Cond.instanceMethod yX6_manySeen ∈ TB := qg Qt8 15 rfl
theorem w_451 : Cond.selects RX6 yX6_manySeen yX6_manySeen ∈ TB := qg Qt8 16 rfl
theorem w_470 : Cond.code yX9_dropBlindAngle cX9_dropBlindAngle 2 (some .int) ∈ TB := qg Qt8 17 rfl
theorem w_467 : Cond.methodLink RX9 110 yX9_dropBlindAngle ∈ TB := qg Qt8 18 rfl
theorem w_469 : Cond.instanceMethod yX9_dropBlindAngle ∈ TB := qg Qt8 19 rfl
theorem w_9 : Cond.selects RX9 yX9_dropBlindAngle yX9_dropBlindAngle ∈ TB := qg Qt8 20 rfl
theorem w_478 : Cond.code yX9_letBeManned cX9_letBeManned 3 (some .int) ∈ TB := qg Qt8 21 rfl
theorem w_475 : Cond.methodLink RX9 113 yX9_letBeManned ∈ TB := qg Qt8 22 rfl
theorem w_477 : Cond.instanceMethod yX9_letBeManned ∈ TB := qg Qt8 23 rfl
theorem w_10 : Cond.selects RX9 yX9_letBeManned yX9_letBeManned ∈ TB := qg Qt8 24 rfl
theorem w_117 : Cond.fieldLink RX9 321 "FortressWatch$Wall" "manned" "[I" ∈ TB := qg Qt8 25 rfl
theorem w_482 : Cond.code yX9_manyWatchedNow cX9_manyWatchedNow 1 (some .int) ∈ TB := qg Qt8 26 rfl
theorem w_479 : Cond.methodLink RX9 117 yX9_manyWatchedNow ∈ TB := qg Qt8 27 rfl
theorem w_481 : Cond.instanceMethod yX9_manyWatchedNow ∈ TB := qg Qt8 28 rfl
theorem w_11 : Cond.selects RX9 yX9_manyWatchedNow yX9_manyWatchedNow ∈ TB := qg Qt8 29 rfl
def qt9 : List (Nat × Cond) := [(180, Cond.fieldLink RX9 163 "FortressWatch$Sights" "manned" "I"), (483, Cond.methodLink RX9 171 yX6_seenBySet), (490, Cond.methodLink RX9 166 yJ6_bitCount_0f7a4), (498, Cond.code yX9_tellHour cX9_tellHour 3 (some .int)), (495, Cond.methodLink RX9 121 yX9_tellHour), (497, Cond.instanceMethod yX9_tellHour), (12, Cond.selects RX9 yX9_tellHour yX9_tellHour), (501, Cond.code yX9_isHour cX9_isHour 1 (some .boolean)), (499, Cond.methodLink RX9 210 yX9_isHour), (500, Cond.static yX9_isHour), (509, Cond.code yX9_manFewest cX9_manFewest 1 (some .int)), (506, Cond.methodLink RX9 124 yX9_manFewest), (508, Cond.instanceMethod yX9_manFewest), (13, Cond.selects RX9 yX9_manFewest yX9_manFewest), (308, Cond.fieldLink RX9 39 "FortressWatch" "chooser" "LFortressWatch$Chooser;"), (513, Cond.code yX0_trySets cX0_trySets 6 none), (510, Cond.methodLink RX9 147 yX0_trySets), (511, Cond.instanceMethod yX0_trySets), (512, Cond.selects RX0 yX0_trySets yX0_trySets), (197, Cond.fieldLink RX9 193 "FortressWatch$Chooser" "best" "I"), (528, Cond.code yX8_manJust cX8_manJust 3 none), (525, Cond.methodLink RX9 326 yX8_manJust), (526, Cond.instanceMethod yX8_manJust), (527, Cond.selects RX8 yX8_manJust yX8_manJust), (524, Cond.code yX9_manyUnseen cX9_manyUnseen 1 (some .int)), (521, Cond.methodLink RX9 323 yX9_manyUnseen), (523, Cond.instanceMethod yX9_manyUnseen), (15, Cond.selects RX9 yX9_manyUnseen yX9_manyUnseen), (201, Cond.fieldLink RX9 151 "FortressWatch$Chooser" "inEach" "I"), (540, Cond.code yX6_manySeenAlone cX6_manySeenAlone 2 (some .int))]
set_option maxRecDepth 20000 in
theorem Qt9 : qt9.all (fun q => decide (lw_tbl[q.1]? = some q.2) && goodWord q.2) = true := by decide +kernel
theorem w_180 : Cond.fieldLink RX9 163 "FortressWatch$Sights" "manned" "I" ∈ TB := qg Qt9 0 rfl
theorem w_483 : Cond.methodLink RX9 171 yX6_seenBySet ∈ TB := qg Qt9 1 rfl
theorem w_490 : Cond.methodLink RX9 166 yJ6_bitCount_0f7a4 ∈ TB := qg Qt9 2 rfl
theorem w_498 : Cond.code yX9_tellHour cX9_tellHour 3 (some .int) ∈ TB := qg Qt9 3 rfl
theorem w_495 : Cond.methodLink RX9 121 yX9_tellHour ∈ TB := qg Qt9 4 rfl
theorem w_497 : Cond.instanceMethod yX9_tellHour ∈ TB := qg Qt9 5 rfl
theorem w_12 : Cond.selects RX9 yX9_tellHour yX9_tellHour ∈ TB := qg Qt9 6 rfl
theorem w_501 : Cond.code yX9_isHour cX9_isHour 1 (some .boolean) ∈ TB := qg Qt9 7 rfl
theorem w_499 : Cond.methodLink RX9 210 yX9_isHour ∈ TB := qg Qt9 8 rfl
theorem w_500 : Cond.static yX9_isHour ∈ TB := qg Qt9 9 rfl
theorem w_509 : Cond.code yX9_manFewest cX9_manFewest 1 (some .int) ∈ TB := qg Qt9 10 rfl
theorem w_506 : Cond.methodLink RX9 124 yX9_manFewest ∈ TB := qg Qt9 11 rfl
theorem w_508 : Cond.instanceMethod yX9_manFewest ∈ TB := qg Qt9 12 rfl
theorem w_13 : Cond.selects RX9 yX9_manFewest yX9_manFewest ∈ TB := qg Qt9 13 rfl
theorem w_308 : Cond.fieldLink RX9 39 "FortressWatch" "chooser" "LFortressWatch$Chooser;" ∈ TB := qg Qt9 14 rfl
theorem w_513 : Cond.code yX0_trySets cX0_trySets 6 none ∈ TB := qg Qt9 15 rfl
theorem w_510 : Cond.methodLink RX9 147 yX0_trySets ∈ TB := qg Qt9 16 rfl
theorem w_511 : Cond.instanceMethod yX0_trySets ∈ TB := qg Qt9 17 rfl
theorem w_512 : Cond.selects RX0 yX0_trySets yX0_trySets ∈ TB := qg Qt9 18 rfl
theorem w_197 : Cond.fieldLink RX9 193 "FortressWatch$Chooser" "best" "I" ∈ TB := qg Qt9 19 rfl
theorem w_528 : Cond.code yX8_manJust cX8_manJust 3 none ∈ TB := qg Qt9 20 rfl
theorem w_525 : Cond.methodLink RX9 326 yX8_manJust ∈ TB := qg Qt9 21 rfl
theorem w_526 : Cond.instanceMethod yX8_manJust ∈ TB := qg Qt9 22 rfl
theorem w_527 : Cond.selects RX8 yX8_manJust yX8_manJust ∈ TB := qg Qt9 23 rfl
theorem w_524 : Cond.code yX9_manyUnseen cX9_manyUnseen 1 (some .int) ∈ TB := qg Qt9 24 rfl
theorem w_521 : Cond.methodLink RX9 323 yX9_manyUnseen ∈ TB := qg Qt9 25 rfl
theorem w_523 : Cond.instanceMethod yX9_manyUnseen ∈ TB := qg Qt9 26 rfl
theorem w_15 : Cond.selects RX9 yX9_manyUnseen yX9_manyUnseen ∈ TB := qg Qt9 27 rfl
theorem w_201 : Cond.fieldLink RX9 151 "FortressWatch$Chooser" "inEach" "I" ∈ TB := qg Qt9 28 rfl
theorem w_540 : Cond.code yX6_manySeenAlone cX6_manySeenAlone 2 (some .int) ∈ TB := qg Qt9 29 rfl
def qt10 : List (Nat × Cond) := [(537, Cond.methodLink RX9 144 yX6_manySeenAlone), (538, Cond.instanceMethod yX6_manySeenAlone), (539, Cond.selects RX6 yX6_manySeenAlone yX6_manySeenAlone), (536, Cond.code yX8_numberOf cX8_numberOf 3 (some .int)), (533, Cond.methodLink RX9 131 yX8_numberOf), (534, Cond.instanceMethod yX8_numberOf), (535, Cond.selects RX8 yX8_numberOf yX8_numberOf), (546, Cond.methodLink RX9 157 yX6_of), (551, Cond.methodLink RX9 160 yX6_seersOf), (309, Cond.fieldLink RX9 46 "FortressWatch" "gaps" "LFortressWatch$Gaps;"), (566, Cond.code yX1_find cX1_find 4 none), (563, Cond.methodLink RX9 174 yX1_find), (564, Cond.instanceMethod yX1_find), (565, Cond.selects RX1 yX1_find yX1_find), (579, Cond.methodLink RX9 178 yX1_isGap), (586, Cond.code yX1_firstOf cX1_firstOf 2 (some .int)), (583, Cond.methodLink RX9 181 yX1_firstOf), (584, Cond.instanceMethod yX1_firstOf), (585, Cond.selects RX1 yX1_firstOf yX1_firstOf), (588, Cond.methodLink RX9 184 yX1_lengthOf), (592, Cond.methodLink RX9 187 yX9_stretch), (596, Cond.code yX6_bestAmong cX6_bestAmong 7 (some .int)), (593, Cond.methodLink RX9 190 yX6_bestAmong), (594, Cond.instanceMethod yX6_bestAmong), (595, Cond.selects RX6 yX6_bestAmong yX6_bestAmong), (608, Cond.code yX0_searchStones cX0_searchStones 3 (some .int)), (605, Cond.methodLink RX9 196 yX0_searchStones), (606, Cond.instanceMethod yX0_searchStones), (607, Cond.selects RX0 yX0_searchStones yX0_searchStones), (199, Cond.fieldLink RX9 200 "FortressWatch$Chooser" "ways" "I")]
set_option maxRecDepth 20000 in
theorem Qt10 : qt10.all (fun q => decide (lw_tbl[q.1]? = some q.2) && goodWord q.2) = true := by decide +kernel
theorem w_537 : Cond.methodLink RX9 144 yX6_manySeenAlone ∈ TB := qg Qt10 0 rfl
theorem w_538 : Cond.instanceMethod yX6_manySeenAlone ∈ TB := qg Qt10 1 rfl
theorem w_539 : Cond.selects RX6 yX6_manySeenAlone yX6_manySeenAlone ∈ TB := qg Qt10 2 rfl
theorem w_536 : Cond.code yX8_numberOf cX8_numberOf 3 (some .int) ∈ TB := qg Qt10 3 rfl
theorem w_533 : Cond.methodLink RX9 131 yX8_numberOf ∈ TB := qg Qt10 4 rfl
theorem w_534 : Cond.instanceMethod yX8_numberOf ∈ TB := qg Qt10 5 rfl
theorem w_535 : Cond.selects RX8 yX8_numberOf yX8_numberOf ∈ TB := qg Qt10 6 rfl
theorem w_546 : Cond.methodLink RX9 157 yX6_of ∈ TB := qg Qt10 7 rfl
theorem w_551 : Cond.methodLink RX9 160 yX6_seersOf ∈ TB := qg Qt10 8 rfl
theorem w_309 : Cond.fieldLink RX9 46 "FortressWatch" "gaps" "LFortressWatch$Gaps;" ∈ TB := qg Qt10 9 rfl
theorem w_566 : Cond.code yX1_find cX1_find 4 none ∈ TB := qg Qt10 10 rfl
theorem w_563 : Cond.methodLink RX9 174 yX1_find ∈ TB := qg Qt10 11 rfl
theorem w_564 : Cond.instanceMethod yX1_find ∈ TB := qg Qt10 12 rfl
theorem w_565 : Cond.selects RX1 yX1_find yX1_find ∈ TB := qg Qt10 13 rfl
theorem w_579 : Cond.methodLink RX9 178 yX1_isGap ∈ TB := qg Qt10 14 rfl
theorem w_586 : Cond.code yX1_firstOf cX1_firstOf 2 (some .int) ∈ TB := qg Qt10 15 rfl
theorem w_583 : Cond.methodLink RX9 181 yX1_firstOf ∈ TB := qg Qt10 16 rfl
theorem w_584 : Cond.instanceMethod yX1_firstOf ∈ TB := qg Qt10 17 rfl
theorem w_585 : Cond.selects RX1 yX1_firstOf yX1_firstOf ∈ TB := qg Qt10 18 rfl
theorem w_588 : Cond.methodLink RX9 184 yX1_lengthOf ∈ TB := qg Qt10 19 rfl
theorem w_592 : Cond.methodLink RX9 187 yX9_stretch ∈ TB := qg Qt10 20 rfl
theorem w_596 : Cond.code yX6_bestAmong cX6_bestAmong 7 (some .int) ∈ TB := qg Qt10 21 rfl
theorem w_593 : Cond.methodLink RX9 190 yX6_bestAmong ∈ TB := qg Qt10 22 rfl
theorem w_594 : Cond.instanceMethod yX6_bestAmong ∈ TB := qg Qt10 23 rfl
theorem w_595 : Cond.selects RX6 yX6_bestAmong yX6_bestAmong ∈ TB := qg Qt10 24 rfl
theorem w_608 : Cond.code yX0_searchStones cX0_searchStones 3 (some .int) ∈ TB := qg Qt10 25 rfl
theorem w_605 : Cond.methodLink RX9 196 yX0_searchStones ∈ TB := qg Qt10 26 rfl
theorem w_606 : Cond.instanceMethod yX0_searchStones ∈ TB := qg Qt10 27 rfl
theorem w_607 : Cond.selects RX0 yX0_searchStones yX0_searchStones ∈ TB := qg Qt10 28 rfl
theorem w_199 : Cond.fieldLink RX9 200 "FortressWatch$Chooser" "ways" "I" ∈ TB := qg Qt10 29 rfl
def qt11 : List (Nat × Cond) := [(639, Cond.code yX9_closingMost cX9_closingMost 3 (some .int)), (636, Cond.methodLink RX9 207 yX9_closingMost), (638, Cond.instanceMethod yX9_closingMost), (17, Cond.selects RX9 yX9_closingMost yX9_closingMost), (652, Cond.methodLink RX9 213 yX9_turned), (310, Cond.fieldLink RX9 53 "FortressWatch" "order" "LFortressWatch$Order;"), (668, Cond.code yX3_at cX3_at 4 (some .int)), (665, Cond.methodLink RX9 223 yX3_at), (666, Cond.instanceMethod yX3_at), (667, Cond.selects RX3 yX3_at yX3_at), (660, Cond.code yX9_keyOf cX9_keyOf 3 (some .int)), (657, Cond.methodLink RX9 216 yX9_keyOf), (659, Cond.instanceMethod yX9_keyOf), (18, Cond.selects RX9 yX9_keyOf yX9_keyOf), (664, Cond.code yX3_giveKey cX3_giveKey 3 none), (661, Cond.methodLink RX9 219 yX3_giveKey), (662, Cond.instanceMethod yX3_giveKey), (663, Cond.selects RX3 yX3_giveKey yX3_giveKey), (312, Cond.fieldLink RX9 67 "FortressWatch" "line" "LFortressWatch$Line;"), (680, Cond.code yX2_clear cX2_clear 1 none), (677, Cond.methodLink RX9 226 yX2_clear), (678, Cond.instanceMethod yX2_clear), (679, Cond.selects RX2 yX2_clear yX2_clear), (684, Cond.code yX2_putNumber cX2_putNumber 2 none), (681, Cond.methodLink RX9 229 yX2_putNumber), (682, Cond.instanceMethod yX2_putNumber), (683, Cond.selects RX2 yX2_putNumber yX2_putNumber), (692, Cond.code yX9_putMarked cX9_putMarked 3 none), (689, Cond.methodLink RX9 232 yX9_putMarked), (691, Cond.instanceMethod yX9_putMarked)]
set_option maxRecDepth 20000 in
theorem Qt11 : qt11.all (fun q => decide (lw_tbl[q.1]? = some q.2) && goodWord q.2) = true := by decide +kernel
theorem w_639 : Cond.code yX9_closingMost cX9_closingMost 3 (some .int) ∈ TB := qg Qt11 0 rfl
theorem w_636 : Cond.methodLink RX9 207 yX9_closingMost ∈ TB := qg Qt11 1 rfl
theorem w_638 : Cond.instanceMethod yX9_closingMost ∈ TB := qg Qt11 2 rfl
theorem w_17 : Cond.selects RX9 yX9_closingMost yX9_closingMost ∈ TB := qg Qt11 3 rfl
theorem w_652 : Cond.methodLink RX9 213 yX9_turned ∈ TB := qg Qt11 4 rfl
theorem w_310 : Cond.fieldLink RX9 53 "FortressWatch" "order" "LFortressWatch$Order;" ∈ TB := qg Qt11 5 rfl
theorem w_668 : Cond.code yX3_at cX3_at 4 (some .int) ∈ TB := qg Qt11 6 rfl
theorem w_665 : Cond.methodLink RX9 223 yX3_at ∈ TB := qg Qt11 7 rfl
theorem w_666 : Cond.instanceMethod yX3_at ∈ TB := qg Qt11 8 rfl
theorem w_667 : Cond.selects RX3 yX3_at yX3_at ∈ TB := qg Qt11 9 rfl
theorem w_660 : Cond.code yX9_keyOf cX9_keyOf 3 (some .int) ∈ TB := qg Qt11 10 rfl
theorem w_657 : Cond.methodLink RX9 216 yX9_keyOf ∈ TB := qg Qt11 11 rfl
theorem w_659 : Cond.instanceMethod yX9_keyOf ∈ TB := qg Qt11 12 rfl
theorem w_18 : Cond.selects RX9 yX9_keyOf yX9_keyOf ∈ TB := qg Qt11 13 rfl
theorem w_664 : Cond.code yX3_giveKey cX3_giveKey 3 none ∈ TB := qg Qt11 14 rfl
theorem w_661 : Cond.methodLink RX9 219 yX3_giveKey ∈ TB := qg Qt11 15 rfl
theorem w_662 : Cond.instanceMethod yX3_giveKey ∈ TB := qg Qt11 16 rfl
theorem w_663 : Cond.selects RX3 yX3_giveKey yX3_giveKey ∈ TB := qg Qt11 17 rfl
theorem w_312 : Cond.fieldLink RX9 67 "FortressWatch" "line" "LFortressWatch$Line;" ∈ TB := qg Qt11 18 rfl
theorem w_680 : Cond.code yX2_clear cX2_clear 1 none ∈ TB := qg Qt11 19 rfl
theorem w_677 : Cond.methodLink RX9 226 yX2_clear ∈ TB := qg Qt11 20 rfl
theorem w_678 : Cond.instanceMethod yX2_clear ∈ TB := qg Qt11 21 rfl
theorem w_679 : Cond.selects RX2 yX2_clear yX2_clear ∈ TB := qg Qt11 22 rfl
theorem w_684 : Cond.code yX2_putNumber cX2_putNumber 2 none ∈ TB := qg Qt11 23 rfl
theorem w_681 : Cond.methodLink RX9 229 yX2_putNumber ∈ TB := qg Qt11 24 rfl
theorem w_682 : Cond.instanceMethod yX2_putNumber ∈ TB := qg Qt11 25 rfl
theorem w_683 : Cond.selects RX2 yX2_putNumber yX2_putNumber ∈ TB := qg Qt11 26 rfl
theorem w_692 : Cond.code yX9_putMarked cX9_putMarked 3 none ∈ TB := qg Qt11 27 rfl
theorem w_689 : Cond.methodLink RX9 232 yX9_putMarked ∈ TB := qg Qt11 28 rfl
theorem w_691 : Cond.instanceMethod yX9_putMarked ∈ TB := qg Qt11 29 rfl
def qt12 : List (Nat × Cond) := [(20, Cond.selects RX9 yX9_putMarked yX9_putMarked), (693, Cond.methodLink RX9 235 yX2_put), (281, Cond.fieldLink RX9 238 "FortressWatch$Line" "length" "I"), (700, Cond.code yX9_signFor cX9_signFor 1 (some .int)), (698, Cond.methodLink RX9 241 yX9_signFor), (699, Cond.static yX9_signFor), (708, Cond.code yX2_codeAt cX2_codeAt 2 (some .int)), (705, Cond.methodLink RX9 244 yX2_codeAt), (706, Cond.instanceMethod yX2_codeAt), (707, Cond.selects RX2 yX2_codeAt yX2_codeAt), (311, Cond.fieldLink RX9 60 "FortressWatch" "text" "LFortressWatch$Text;"), (716, Cond.code yX7_put cX7_put 2 (some .int)), (713, Cond.methodLink RX9 247 yX7_put), (714, Cond.instanceMethod yX7_put), (715, Cond.selects RX7 yX7_put yX7_put), (724, Cond.code yX7_findFault cX7_findFault 2 (some .int)), (721, Cond.methodLink RX9 249 yX7_findFault), (722, Cond.instanceMethod yX7_findFault), (723, Cond.selects RX7 yX7_findFault yX7_findFault), (764, Cond.code yX9_carryOutAll cX9_carryOutAll 4 (some .int)), (761, Cond.methodLink RX9 253 yX9_carryOutAll), (763, Cond.instanceMethod yX9_carryOutAll), (26, Cond.selects RX9 yX9_carryOutAll yX9_carryOutAll), (765, Cond.methodLink RX9 329 yX7_rewind), (766, Cond.methodLink RX9 332 yX7_takeCommand), (770, Cond.code yX9_carryOut cX9_carryOut 1 (some .int)), (767, Cond.methodLink RX9 336 yX9_carryOut), (769, Cond.instanceMethod yX9_carryOut), (27, Cond.selects RX9 yX9_carryOut yX9_carryOut), (251, Cond.fieldLink RX9 342 "FortressWatch$Text" "letter" "I")]
set_option maxRecDepth 20000 in
theorem Qt12 : qt12.all (fun q => decide (lw_tbl[q.1]? = some q.2) && goodWord q.2) = true := by decide +kernel
theorem w_20 : Cond.selects RX9 yX9_putMarked yX9_putMarked ∈ TB := qg Qt12 0 rfl
theorem w_693 : Cond.methodLink RX9 235 yX2_put ∈ TB := qg Qt12 1 rfl
theorem w_281 : Cond.fieldLink RX9 238 "FortressWatch$Line" "length" "I" ∈ TB := qg Qt12 2 rfl
theorem w_700 : Cond.code yX9_signFor cX9_signFor 1 (some .int) ∈ TB := qg Qt12 3 rfl
theorem w_698 : Cond.methodLink RX9 241 yX9_signFor ∈ TB := qg Qt12 4 rfl
theorem w_699 : Cond.static yX9_signFor ∈ TB := qg Qt12 5 rfl
theorem w_708 : Cond.code yX2_codeAt cX2_codeAt 2 (some .int) ∈ TB := qg Qt12 6 rfl
theorem w_705 : Cond.methodLink RX9 244 yX2_codeAt ∈ TB := qg Qt12 7 rfl
theorem w_706 : Cond.instanceMethod yX2_codeAt ∈ TB := qg Qt12 8 rfl
theorem w_707 : Cond.selects RX2 yX2_codeAt yX2_codeAt ∈ TB := qg Qt12 9 rfl
theorem w_311 : Cond.fieldLink RX9 60 "FortressWatch" "text" "LFortressWatch$Text;" ∈ TB := qg Qt12 10 rfl
theorem w_716 : Cond.code yX7_put cX7_put 2 (some .int) ∈ TB := qg Qt12 11 rfl
theorem w_713 : Cond.methodLink RX9 247 yX7_put ∈ TB := qg Qt12 12 rfl
theorem w_714 : Cond.instanceMethod yX7_put ∈ TB := qg Qt12 13 rfl
theorem w_715 : Cond.selects RX7 yX7_put yX7_put ∈ TB := qg Qt12 14 rfl
theorem w_724 : Cond.code yX7_findFault cX7_findFault 2 (some .int) ∈ TB := qg Qt12 15 rfl
theorem w_721 : Cond.methodLink RX9 249 yX7_findFault ∈ TB := qg Qt12 16 rfl
theorem w_722 : Cond.instanceMethod yX7_findFault ∈ TB := qg Qt12 17 rfl
theorem w_723 : Cond.selects RX7 yX7_findFault yX7_findFault ∈ TB := qg Qt12 18 rfl
theorem w_764 : Cond.code yX9_carryOutAll cX9_carryOutAll 4 (some .int) ∈ TB := qg Qt12 19 rfl
theorem w_761 : Cond.methodLink RX9 253 yX9_carryOutAll ∈ TB := qg Qt12 20 rfl
theorem w_763 : Cond.instanceMethod yX9_carryOutAll ∈ TB := qg Qt12 21 rfl
theorem w_26 : Cond.selects RX9 yX9_carryOutAll yX9_carryOutAll ∈ TB := qg Qt12 22 rfl
theorem w_765 : Cond.methodLink RX9 329 yX7_rewind ∈ TB := qg Qt12 23 rfl
theorem w_766 : Cond.methodLink RX9 332 yX7_takeCommand ∈ TB := qg Qt12 24 rfl
theorem w_770 : Cond.code yX9_carryOut cX9_carryOut 1 (some .int) ∈ TB := qg Qt12 25 rfl
theorem w_767 : Cond.methodLink RX9 336 yX9_carryOut ∈ TB := qg Qt12 26 rfl
theorem w_769 : Cond.instanceMethod yX9_carryOut ∈ TB := qg Qt12 27 rfl
theorem w_27 : Cond.selects RX9 yX9_carryOut yX9_carryOut ∈ TB := qg Qt12 28 rfl
theorem w_251 : Cond.fieldLink RX9 342 "FortressWatch$Text" "letter" "I" ∈ TB := qg Qt12 29 rfl
def qt13 : List (Nat × Cond) := [(253, Cond.fieldLink RX9 345 "FortressWatch$Text" "first" "I"), (255, Cond.fieldLink RX9 348 "FortressWatch$Text" "second" "I"), (257, Cond.fieldLink RX9 351 "FortressWatch$Text" "third" "I"), (771, Cond.methodLink RX9 339 yX7_skip), (760, Cond.code yX7_clear cX7_clear 1 none), (757, Cond.methodLink RX9 252 yX7_clear), (758, Cond.instanceMethod yX7_clear), (759, Cond.selects RX7 yX7_clear yX7_clear), (779, Cond.code yX5_numberOf cX5_numberOf 2 (some .int)), (776, Cond.methodLink RX9 256 yX5_numberOf), (777, Cond.instanceMethod yX5_numberOf), (778, Cond.selects RX5 yX5_numberOf yX5_numberOf), (791, Cond.code yX9_sightAccount cX9_sightAccount 3 (some .int)), (788, Cond.methodLink RX9 265 yX9_sightAccount), (790, Cond.instanceMethod yX9_sightAccount), (28, Cond.selects RX9 yX9_sightAccount yX9_sightAccount), (795, Cond.code yX6_overlaps cX6_overlaps 4 (some .int)), (792, Cond.methodLink RX9 354 yX6_overlaps), (793, Cond.instanceMethod yX6_overlaps), (794, Cond.selects RX6 yX6_overlaps yX6_overlaps), (222, Cond.fieldLink RX9 357 "FortressWatch$Gaps" "many" "I"), (799, Cond.code yX1_longest cX1_longest 3 (some .int)), (796, Cond.methodLink RX9 358 yX1_longest), (797, Cond.instanceMethod yX1_longest), (798, Cond.selects RX1 yX1_longest yX1_longest), (787, Cond.code yX8_accountOf cX8_accountOf 2 (some .int)), (784, Cond.methodLink RX9 262 yX8_accountOf), (785, Cond.instanceMethod yX8_accountOf), (786, Cond.selects RX8 yX8_accountOf yX8_accountOf), (162, Cond.fieldLink RX9 259 "FortressWatch$Past" "many" "I")]
set_option maxRecDepth 20000 in
theorem Qt13 : qt13.all (fun q => decide (lw_tbl[q.1]? = some q.2) && goodWord q.2) = true := by decide +kernel
theorem w_253 : Cond.fieldLink RX9 345 "FortressWatch$Text" "first" "I" ∈ TB := qg Qt13 0 rfl
theorem w_255 : Cond.fieldLink RX9 348 "FortressWatch$Text" "second" "I" ∈ TB := qg Qt13 1 rfl
theorem w_257 : Cond.fieldLink RX9 351 "FortressWatch$Text" "third" "I" ∈ TB := qg Qt13 2 rfl
theorem w_771 : Cond.methodLink RX9 339 yX7_skip ∈ TB := qg Qt13 3 rfl
theorem w_760 : Cond.code yX7_clear cX7_clear 1 none ∈ TB := qg Qt13 4 rfl
theorem w_757 : Cond.methodLink RX9 252 yX7_clear ∈ TB := qg Qt13 5 rfl
theorem w_758 : Cond.instanceMethod yX7_clear ∈ TB := qg Qt13 6 rfl
theorem w_759 : Cond.selects RX7 yX7_clear yX7_clear ∈ TB := qg Qt13 7 rfl
theorem w_779 : Cond.code yX5_numberOf cX5_numberOf 2 (some .int) ∈ TB := qg Qt13 8 rfl
theorem w_776 : Cond.methodLink RX9 256 yX5_numberOf ∈ TB := qg Qt13 9 rfl
theorem w_777 : Cond.instanceMethod yX5_numberOf ∈ TB := qg Qt13 10 rfl
theorem w_778 : Cond.selects RX5 yX5_numberOf yX5_numberOf ∈ TB := qg Qt13 11 rfl
theorem w_791 : Cond.code yX9_sightAccount cX9_sightAccount 3 (some .int) ∈ TB := qg Qt13 12 rfl
theorem w_788 : Cond.methodLink RX9 265 yX9_sightAccount ∈ TB := qg Qt13 13 rfl
theorem w_790 : Cond.instanceMethod yX9_sightAccount ∈ TB := qg Qt13 14 rfl
theorem w_28 : Cond.selects RX9 yX9_sightAccount yX9_sightAccount ∈ TB := qg Qt13 15 rfl
theorem w_795 : Cond.code yX6_overlaps cX6_overlaps 4 (some .int) ∈ TB := qg Qt13 16 rfl
theorem w_792 : Cond.methodLink RX9 354 yX6_overlaps ∈ TB := qg Qt13 17 rfl
theorem w_793 : Cond.instanceMethod yX6_overlaps ∈ TB := qg Qt13 18 rfl
theorem w_794 : Cond.selects RX6 yX6_overlaps yX6_overlaps ∈ TB := qg Qt13 19 rfl
theorem w_222 : Cond.fieldLink RX9 357 "FortressWatch$Gaps" "many" "I" ∈ TB := qg Qt13 20 rfl
theorem w_799 : Cond.code yX1_longest cX1_longest 3 (some .int) ∈ TB := qg Qt13 21 rfl
theorem w_796 : Cond.methodLink RX9 358 yX1_longest ∈ TB := qg Qt13 22 rfl
theorem w_797 : Cond.instanceMethod yX1_longest ∈ TB := qg Qt13 23 rfl
theorem w_798 : Cond.selects RX1 yX1_longest yX1_longest ∈ TB := qg Qt13 24 rfl
theorem w_787 : Cond.code yX8_accountOf cX8_accountOf 2 (some .int) ∈ TB := qg Qt13 25 rfl
theorem w_784 : Cond.methodLink RX9 262 yX8_accountOf ∈ TB := qg Qt13 26 rfl
theorem w_785 : Cond.instanceMethod yX8_accountOf ∈ TB := qg Qt13 27 rfl
theorem w_786 : Cond.selects RX8 yX8_accountOf yX8_accountOf ∈ TB := qg Qt13 28 rfl
theorem w_162 : Cond.fieldLink RX9 259 "FortressWatch$Past" "many" "I" ∈ TB := qg Qt13 29 rfl
def qt14 : List (Nat × Cond) := [(249, Cond.fieldLink RX9 258 "FortressWatch$Text" "length" "I"), (809, Cond.code yX1_lengthOfAll cX1_lengthOfAll 3 (some .int)), (806, Cond.methodLink RX9 268 yX1_lengthOfAll), (807, Cond.instanceMethod yX1_lengthOfAll), (808, Cond.selects RX1 yX1_lengthOfAll yX1_lengthOfAll), (815, Cond.constantFloat RX9 275 (1103101952)), (818, Cond.code yX9_bitsOf cX9_bitsOf 4 (some .int)), (816, Cond.methodLink RX9 276 yX9_bitsOf), (817, Cond.static yX9_bitsOf), (819, Cond.constantFloat RX9 363 (1258291200)), (814, Cond.methodLink RX9 271 yX9_isIn), (827, Cond.code yX4_takeBack cX4_takeBack 3 none), (824, Cond.methodLink RX9 280 yX4_takeBack), (825, Cond.instanceMethod yX4_takeBack), (826, Cond.selects RX4 yX4_takeBack yX4_takeBack), (305, Cond.fieldLink RX9 19 "FortressWatch" "snapshot" "LFortressWatch$Wall;"), (314, Cond.fieldLink RX9 78 "FortressWatch" "hasSnapshot" "Z"), (839, Cond.code yX4_forget cX4_forget 1 none), (836, Cond.methodLink RX9 283 yX4_forget), (837, Cond.instanceMethod yX4_forget), (838, Cond.selects RX4 yX4_forget yX4_forget), (846, Cond.fieldLink RX10 9 "FortressWatchModel" "s" "[I"), (847, Cond.fieldLink RX10 13 "FortressWatchModel" "was" "[I"), (905, Cond.code yX10_copies cX10_copies 5 none), (903, Cond.methodLink RX10 35 yX10_copies), (904, Cond.static yX10_copies), (84, Cond.initialized RX10), (850, Cond.fieldLink RX10 39 "FortressWatchModel" "changes" "I"), (849, Cond.fieldLink RX10 19 "FortressWatchModel" "past" "[I"), (942, Cond.code yX10_changed cX10_changed 2 none)]
set_option maxRecDepth 20000 in
theorem Qt14 : qt14.all (fun q => decide (lw_tbl[q.1]? = some q.2) && goodWord q.2) = true := by decide +kernel
theorem w_249 : Cond.fieldLink RX9 258 "FortressWatch$Text" "length" "I" ∈ TB := qg Qt14 0 rfl
theorem w_809 : Cond.code yX1_lengthOfAll cX1_lengthOfAll 3 (some .int) ∈ TB := qg Qt14 1 rfl
theorem w_806 : Cond.methodLink RX9 268 yX1_lengthOfAll ∈ TB := qg Qt14 2 rfl
theorem w_807 : Cond.instanceMethod yX1_lengthOfAll ∈ TB := qg Qt14 3 rfl
theorem w_808 : Cond.selects RX1 yX1_lengthOfAll yX1_lengthOfAll ∈ TB := qg Qt14 4 rfl
theorem w_815 : Cond.constantFloat RX9 275 (1103101952) ∈ TB := qg Qt14 5 rfl
theorem w_818 : Cond.code yX9_bitsOf cX9_bitsOf 4 (some .int) ∈ TB := qg Qt14 6 rfl
theorem w_816 : Cond.methodLink RX9 276 yX9_bitsOf ∈ TB := qg Qt14 7 rfl
theorem w_817 : Cond.static yX9_bitsOf ∈ TB := qg Qt14 8 rfl
theorem w_819 : Cond.constantFloat RX9 363 (1258291200) ∈ TB := qg Qt14 9 rfl
theorem w_814 : Cond.methodLink RX9 271 yX9_isIn ∈ TB := qg Qt14 10 rfl
theorem w_827 : Cond.code yX4_takeBack cX4_takeBack 3 none ∈ TB := qg Qt14 11 rfl
theorem w_824 : Cond.methodLink RX9 280 yX4_takeBack ∈ TB := qg Qt14 12 rfl
theorem w_825 : Cond.instanceMethod yX4_takeBack ∈ TB := qg Qt14 13 rfl
theorem w_826 : Cond.selects RX4 yX4_takeBack yX4_takeBack ∈ TB := qg Qt14 14 rfl
theorem w_305 : Cond.fieldLink RX9 19 "FortressWatch" "snapshot" "LFortressWatch$Wall;" ∈ TB := qg Qt14 15 rfl
theorem w_314 : Cond.fieldLink RX9 78 "FortressWatch" "hasSnapshot" "Z" ∈ TB := qg Qt14 16 rfl
theorem w_839 : Cond.code yX4_forget cX4_forget 1 none ∈ TB := qg Qt14 17 rfl
theorem w_836 : Cond.methodLink RX9 283 yX4_forget ∈ TB := qg Qt14 18 rfl
theorem w_837 : Cond.instanceMethod yX4_forget ∈ TB := qg Qt14 19 rfl
theorem w_838 : Cond.selects RX4 yX4_forget yX4_forget ∈ TB := qg Qt14 20 rfl
theorem w_846 : Cond.fieldLink RX10 9 "FortressWatchModel" "s" "[I" ∈ TB := qg Qt14 21 rfl
theorem w_847 : Cond.fieldLink RX10 13 "FortressWatchModel" "was" "[I" ∈ TB := qg Qt14 22 rfl
theorem w_905 : Cond.code yX10_copies cX10_copies 5 none ∈ TB := qg Qt14 23 rfl
theorem w_903 : Cond.methodLink RX10 35 yX10_copies ∈ TB := qg Qt14 24 rfl
theorem w_904 : Cond.static yX10_copies ∈ TB := qg Qt14 25 rfl
theorem w_84 : Cond.initialized RX10 ∈ TB := qg Qt14 26 rfl
theorem w_850 : Cond.fieldLink RX10 39 "FortressWatchModel" "changes" "I" ∈ TB := qg Qt14 27 rfl
theorem w_849 : Cond.fieldLink RX10 19 "FortressWatchModel" "past" "[I" ∈ TB := qg Qt14 28 rfl
theorem w_942 : Cond.code yX10_changed cX10_changed 2 none ∈ TB := qg Qt14 29 rfl
def qt15 : List (Nat × Cond) := [(939, Cond.methodLink RX10 42 yX10_changed), (941, Cond.instanceMethod yX10_changed), (36, Cond.selects RX10 yX10_changed yX10_changed), (851, Cond.fieldLink RX10 45 "FortressWatchModel" "reason" "I"), (852, Cond.fieldLink RX10 48 "FortressWatchModel" "detail" "I"), (853, Cond.fieldLink RX10 22 "FortressWatchModel" "refusedAt" "I"), (915, Cond.code yX10_isIn cX10_isIn 3 (some .boolean)), (913, Cond.methodLink RX10 51 yX10_isIn), (914, Cond.static yX10_isIn), (926, Cond.code yX10_of cX10_of 3 (some .int)), (923, Cond.methodLink RX10 55 yX10_of), (925, Cond.instanceMethod yX10_of), (32, Cond.selects RX10 yX10_of yX10_of), (981, Cond.code yX10_less cX10_less 1 (some .int)), (979, Cond.methodLink RX10 59 yX10_less), (980, Cond.static yX10_less), (984, Cond.code yX10_greater cX10_greater 2 (some .int)), (982, Cond.methodLink RX10 63 yX10_greater), (983, Cond.static yX10_greater), (978, Cond.code yX10_sightIn cX10_sightIn 7 (some .int)), (975, Cond.methodLink RX10 66 yX10_sightIn), (977, Cond.instanceMethod yX10_sightIn), (42, Cond.selects RX10 yX10_sightIn yX10_sightIn), (1011, Cond.code yX10_isManned cX10_isManned 2 (some .boolean)), (1008, Cond.methodLink RX10 69 yX10_isManned), (1010, Cond.instanceMethod yX10_isManned), (46, Cond.selects RX10 yX10_isManned yX10_isManned), (1022, Cond.code yX10_has cX10_has 2 (some .boolean)), (1020, Cond.methodLink RX10 73 yX10_has), (1021, Cond.static yX10_has)]
set_option maxRecDepth 20000 in
theorem Qt15 : qt15.all (fun q => decide (lw_tbl[q.1]? = some q.2) && goodWord q.2) = true := by decide +kernel
theorem w_939 : Cond.methodLink RX10 42 yX10_changed ∈ TB := qg Qt15 0 rfl
theorem w_941 : Cond.instanceMethod yX10_changed ∈ TB := qg Qt15 1 rfl
theorem w_36 : Cond.selects RX10 yX10_changed yX10_changed ∈ TB := qg Qt15 2 rfl
theorem w_851 : Cond.fieldLink RX10 45 "FortressWatchModel" "reason" "I" ∈ TB := qg Qt15 3 rfl
theorem w_852 : Cond.fieldLink RX10 48 "FortressWatchModel" "detail" "I" ∈ TB := qg Qt15 4 rfl
theorem w_853 : Cond.fieldLink RX10 22 "FortressWatchModel" "refusedAt" "I" ∈ TB := qg Qt15 5 rfl
theorem w_915 : Cond.code yX10_isIn cX10_isIn 3 (some .boolean) ∈ TB := qg Qt15 6 rfl
theorem w_913 : Cond.methodLink RX10 51 yX10_isIn ∈ TB := qg Qt15 7 rfl
theorem w_914 : Cond.static yX10_isIn ∈ TB := qg Qt15 8 rfl
theorem w_926 : Cond.code yX10_of cX10_of 3 (some .int) ∈ TB := qg Qt15 9 rfl
theorem w_923 : Cond.methodLink RX10 55 yX10_of ∈ TB := qg Qt15 10 rfl
theorem w_925 : Cond.instanceMethod yX10_of ∈ TB := qg Qt15 11 rfl
theorem w_32 : Cond.selects RX10 yX10_of yX10_of ∈ TB := qg Qt15 12 rfl
theorem w_981 : Cond.code yX10_less cX10_less 1 (some .int) ∈ TB := qg Qt15 13 rfl
theorem w_979 : Cond.methodLink RX10 59 yX10_less ∈ TB := qg Qt15 14 rfl
theorem w_980 : Cond.static yX10_less ∈ TB := qg Qt15 15 rfl
theorem w_984 : Cond.code yX10_greater cX10_greater 2 (some .int) ∈ TB := qg Qt15 16 rfl
theorem w_982 : Cond.methodLink RX10 63 yX10_greater ∈ TB := qg Qt15 17 rfl
theorem w_983 : Cond.static yX10_greater ∈ TB := qg Qt15 18 rfl
theorem w_978 : Cond.code yX10_sightIn cX10_sightIn 7 (some .int) ∈ TB := qg Qt15 19 rfl
theorem w_975 : Cond.methodLink RX10 66 yX10_sightIn ∈ TB := qg Qt15 20 rfl
theorem w_977 : Cond.instanceMethod yX10_sightIn ∈ TB := qg Qt15 21 rfl
theorem w_42 : Cond.selects RX10 yX10_sightIn yX10_sightIn ∈ TB := qg Qt15 22 rfl
theorem w_1011 : Cond.code yX10_isManned cX10_isManned 2 (some .boolean) ∈ TB := qg Qt15 23 rfl
theorem w_1008 : Cond.methodLink RX10 69 yX10_isManned ∈ TB := qg Qt15 24 rfl
theorem w_1010 : Cond.instanceMethod yX10_isManned ∈ TB := qg Qt15 25 rfl
theorem w_46 : Cond.selects RX10 yX10_isManned yX10_isManned ∈ TB := qg Qt15 26 rfl
theorem w_1022 : Cond.code yX10_has cX10_has 2 (some .boolean) ∈ TB := qg Qt15 27 rfl
theorem w_1020 : Cond.methodLink RX10 73 yX10_has ∈ TB := qg Qt15 28 rfl
theorem w_1021 : Cond.static yX10_has ∈ TB := qg Qt15 29 rfl
def qt16 : List (Nat × Cond) := [(1019, Cond.code yX10_seenIn cX10_seenIn 5 (some .int)), (1016, Cond.methodLink RX10 77 yX10_seenIn), (1018, Cond.instanceMethod yX10_seenIn), (48, Cond.selects RX10 yX10_seenIn yX10_seenIn), (912, Cond.code yX10_isStone cX10_isStone 1 (some .boolean)), (910, Cond.methodLink RX10 80 yX10_isStone), (911, Cond.static yX10_isStone), (918, Cond.code yX10_isReach cX10_isReach 1 (some .boolean)), (916, Cond.methodLink RX10 83 yX10_isReach), (917, Cond.static yX10_isReach), (922, Cond.code yX10_postOn cX10_postOn 3 (some .int)), (919, Cond.methodLink RX10 86 yX10_postOn), (921, Cond.instanceMethod yX10_postOn), (31, Cond.selects RX10 yX10_postOn yX10_postOn), (930, Cond.code yX10_isRefused cX10_isRefused 4 (some .boolean)), (927, Cond.methodLink RX10 89 yX10_isRefused), (929, Cond.instanceMethod yX10_isRefused), (33, Cond.selects RX10 yX10_isRefused yX10_isRefused), (934, Cond.code yX10_sets cX10_sets 4 none), (931, Cond.methodLink RX10 93 yX10_sets), (933, Cond.instanceMethod yX10_sets), (34, Cond.selects RX10 yX10_sets yX10_sets), (902, Cond.code yX10_keeps cX10_keeps 1 none), (899, Cond.methodLink RX10 97 yX10_keeps), (901, Cond.instanceMethod yX10_keeps), (29, Cond.selects RX10 yX10_keeps yX10_keeps), (909, Cond.code yX10_builds cX10_builds 6 (some .int)), (906, Cond.methodLink RX10 100 yX10_builds), (908, Cond.instanceMethod yX10_builds), (30, Cond.selects RX10 yX10_builds yX10_builds)]
set_option maxRecDepth 20000 in
theorem Qt16 : qt16.all (fun q => decide (lw_tbl[q.1]? = some q.2) && goodWord q.2) = true := by decide +kernel
theorem w_1019 : Cond.code yX10_seenIn cX10_seenIn 5 (some .int) ∈ TB := qg Qt16 0 rfl
theorem w_1016 : Cond.methodLink RX10 77 yX10_seenIn ∈ TB := qg Qt16 1 rfl
theorem w_1018 : Cond.instanceMethod yX10_seenIn ∈ TB := qg Qt16 2 rfl
theorem w_48 : Cond.selects RX10 yX10_seenIn yX10_seenIn ∈ TB := qg Qt16 3 rfl
theorem w_912 : Cond.code yX10_isStone cX10_isStone 1 (some .boolean) ∈ TB := qg Qt16 4 rfl
theorem w_910 : Cond.methodLink RX10 80 yX10_isStone ∈ TB := qg Qt16 5 rfl
theorem w_911 : Cond.static yX10_isStone ∈ TB := qg Qt16 6 rfl
theorem w_918 : Cond.code yX10_isReach cX10_isReach 1 (some .boolean) ∈ TB := qg Qt16 7 rfl
theorem w_916 : Cond.methodLink RX10 83 yX10_isReach ∈ TB := qg Qt16 8 rfl
theorem w_917 : Cond.static yX10_isReach ∈ TB := qg Qt16 9 rfl
theorem w_922 : Cond.code yX10_postOn cX10_postOn 3 (some .int) ∈ TB := qg Qt16 10 rfl
theorem w_919 : Cond.methodLink RX10 86 yX10_postOn ∈ TB := qg Qt16 11 rfl
theorem w_921 : Cond.instanceMethod yX10_postOn ∈ TB := qg Qt16 12 rfl
theorem w_31 : Cond.selects RX10 yX10_postOn yX10_postOn ∈ TB := qg Qt16 13 rfl
theorem w_930 : Cond.code yX10_isRefused cX10_isRefused 4 (some .boolean) ∈ TB := qg Qt16 14 rfl
theorem w_927 : Cond.methodLink RX10 89 yX10_isRefused ∈ TB := qg Qt16 15 rfl
theorem w_929 : Cond.instanceMethod yX10_isRefused ∈ TB := qg Qt16 16 rfl
theorem w_33 : Cond.selects RX10 yX10_isRefused yX10_isRefused ∈ TB := qg Qt16 17 rfl
theorem w_934 : Cond.code yX10_sets cX10_sets 4 none ∈ TB := qg Qt16 18 rfl
theorem w_931 : Cond.methodLink RX10 93 yX10_sets ∈ TB := qg Qt16 19 rfl
theorem w_933 : Cond.instanceMethod yX10_sets ∈ TB := qg Qt16 20 rfl
theorem w_34 : Cond.selects RX10 yX10_sets yX10_sets ∈ TB := qg Qt16 21 rfl
theorem w_902 : Cond.code yX10_keeps cX10_keeps 1 none ∈ TB := qg Qt16 22 rfl
theorem w_899 : Cond.methodLink RX10 97 yX10_keeps ∈ TB := qg Qt16 23 rfl
theorem w_901 : Cond.instanceMethod yX10_keeps ∈ TB := qg Qt16 24 rfl
theorem w_29 : Cond.selects RX10 yX10_keeps yX10_keeps ∈ TB := qg Qt16 25 rfl
theorem w_909 : Cond.code yX10_builds cX10_builds 6 (some .int) ∈ TB := qg Qt16 26 rfl
theorem w_906 : Cond.methodLink RX10 100 yX10_builds ∈ TB := qg Qt16 27 rfl
theorem w_908 : Cond.instanceMethod yX10_builds ∈ TB := qg Qt16 28 rfl
theorem w_30 : Cond.selects RX10 yX10_builds yX10_builds ∈ TB := qg Qt16 29 rfl
def qt17 : List (Nat × Cond) := [(938, Cond.code yX10_ends cX10_ends 2 (some .int)), (935, Cond.methodLink RX10 104 yX10_ends), (937, Cond.instanceMethod yX10_ends), (35, Cond.selects RX10 yX10_ends yX10_ends), (954, Cond.code yX10_isPost cX10_isPost 2 (some .boolean)), (951, Cond.methodLink RX10 107 yX10_isPost), (953, Cond.instanceMethod yX10_isPost), (38, Cond.selects RX10 yX10_isPost yX10_isPost), (950, Cond.code yX10_tears cX10_tears 3 (some .int)), (947, Cond.methodLink RX10 110 yX10_tears), (949, Cond.instanceMethod yX10_tears), (37, Cond.selects RX10 yX10_tears yX10_tears), (962, Cond.code yX10_reaches cX10_reaches 5 (some .int)), (959, Cond.methodLink RX10 113 yX10_reaches), (961, Cond.instanceMethod yX10_reaches), (39, Cond.selects RX10 yX10_reaches yX10_reaches), (974, Cond.code yX10_sight cX10_sight 2 (some .int)), (971, Cond.methodLink RX10 116 yX10_sight), (973, Cond.instanceMethod yX10_sight), (41, Cond.selects RX10 yX10_sight yX10_sight), (987, Cond.code yX10_bits cX10_bits 3 (some .int)), (985, Cond.methodLink RX10 119 yX10_bits), (986, Cond.static yX10_bits), (970, Cond.code yX10_blinds cX10_blinds 4 (some .int)), (967, Cond.methodLink RX10 122 yX10_blinds), (969, Cond.instanceMethod yX10_blinds), (40, Cond.selects RX10 yX10_blinds yX10_blinds), (995, Cond.code yX10_lets cX10_lets 2 (some .int)), (992, Cond.methodLink RX10 125 yX10_lets), (994, Cond.instanceMethod yX10_lets)]
set_option maxRecDepth 20000 in
theorem Qt17 : qt17.all (fun q => decide (lw_tbl[q.1]? = some q.2) && goodWord q.2) = true := by decide +kernel
theorem w_938 : Cond.code yX10_ends cX10_ends 2 (some .int) ∈ TB := qg Qt17 0 rfl
theorem w_935 : Cond.methodLink RX10 104 yX10_ends ∈ TB := qg Qt17 1 rfl
theorem w_937 : Cond.instanceMethod yX10_ends ∈ TB := qg Qt17 2 rfl
theorem w_35 : Cond.selects RX10 yX10_ends yX10_ends ∈ TB := qg Qt17 3 rfl
theorem w_954 : Cond.code yX10_isPost cX10_isPost 2 (some .boolean) ∈ TB := qg Qt17 4 rfl
theorem w_951 : Cond.methodLink RX10 107 yX10_isPost ∈ TB := qg Qt17 5 rfl
theorem w_953 : Cond.instanceMethod yX10_isPost ∈ TB := qg Qt17 6 rfl
theorem w_38 : Cond.selects RX10 yX10_isPost yX10_isPost ∈ TB := qg Qt17 7 rfl
theorem w_950 : Cond.code yX10_tears cX10_tears 3 (some .int) ∈ TB := qg Qt17 8 rfl
theorem w_947 : Cond.methodLink RX10 110 yX10_tears ∈ TB := qg Qt17 9 rfl
theorem w_949 : Cond.instanceMethod yX10_tears ∈ TB := qg Qt17 10 rfl
theorem w_37 : Cond.selects RX10 yX10_tears yX10_tears ∈ TB := qg Qt17 11 rfl
theorem w_962 : Cond.code yX10_reaches cX10_reaches 5 (some .int) ∈ TB := qg Qt17 12 rfl
theorem w_959 : Cond.methodLink RX10 113 yX10_reaches ∈ TB := qg Qt17 13 rfl
theorem w_961 : Cond.instanceMethod yX10_reaches ∈ TB := qg Qt17 14 rfl
theorem w_39 : Cond.selects RX10 yX10_reaches yX10_reaches ∈ TB := qg Qt17 15 rfl
theorem w_974 : Cond.code yX10_sight cX10_sight 2 (some .int) ∈ TB := qg Qt17 16 rfl
theorem w_971 : Cond.methodLink RX10 116 yX10_sight ∈ TB := qg Qt17 17 rfl
theorem w_973 : Cond.instanceMethod yX10_sight ∈ TB := qg Qt17 18 rfl
theorem w_41 : Cond.selects RX10 yX10_sight yX10_sight ∈ TB := qg Qt17 19 rfl
theorem w_987 : Cond.code yX10_bits cX10_bits 3 (some .int) ∈ TB := qg Qt17 20 rfl
theorem w_985 : Cond.methodLink RX10 119 yX10_bits ∈ TB := qg Qt17 21 rfl
theorem w_986 : Cond.static yX10_bits ∈ TB := qg Qt17 22 rfl
theorem w_970 : Cond.code yX10_blinds cX10_blinds 4 (some .int) ∈ TB := qg Qt17 23 rfl
theorem w_967 : Cond.methodLink RX10 122 yX10_blinds ∈ TB := qg Qt17 24 rfl
theorem w_969 : Cond.instanceMethod yX10_blinds ∈ TB := qg Qt17 25 rfl
theorem w_40 : Cond.selects RX10 yX10_blinds yX10_blinds ∈ TB := qg Qt17 26 rfl
theorem w_995 : Cond.code yX10_lets cX10_lets 2 (some .int) ∈ TB := qg Qt17 27 rfl
theorem w_992 : Cond.methodLink RX10 125 yX10_lets ∈ TB := qg Qt17 28 rfl
theorem w_994 : Cond.instanceMethod yX10_lets ∈ TB := qg Qt17 29 rfl
def qt18 : List (Nat × Cond) := [(43, Cond.selects RX10 yX10_lets yX10_lets), (1007, Cond.code yX10_mannedSet cX10_mannedSet 3 (some .int)), (1004, Cond.methodLink RX10 128 yX10_mannedSet), (1006, Cond.instanceMethod yX10_mannedSet), (45, Cond.selects RX10 yX10_mannedSet yX10_mannedSet), (1015, Cond.code yX10_seen cX10_seen 2 (some .int)), (1012, Cond.methodLink RX10 132 yX10_seen), (1014, Cond.instanceMethod yX10_seen), (47, Cond.selects RX10 yX10_seen yX10_seen), (1003, Cond.code yX10_mans cX10_mans 3 (some .int)), (1000, Cond.methodLink RX10 135 yX10_mans), (1002, Cond.instanceMethod yX10_mans), (44, Cond.selects RX10 yX10_mans yX10_mans), (1033, Cond.code yX10_isHour cX10_isHour 1 (some .boolean)), (1031, Cond.methodLink RX10 138 yX10_isHour), (1032, Cond.static yX10_isHour), (1030, Cond.code yX10_tellsHour cX10_tellsHour 3 (some .int)), (1027, Cond.methodLink RX10 141 yX10_tellsHour), (1029, Cond.instanceMethod yX10_tellsHour), (49, Cond.selects RX10 yX10_tellsHour yX10_tellsHour), (1049, Cond.code yX10_all cX10_all 1 (some .int)), (1046, Cond.methodLink RX10 144 yX10_all), (1048, Cond.instanceMethod yX10_all), (52, Cond.selects RX10 yX10_all yX10_all), (1050, Cond.constant RX10 147 (16777215)), (1045, Cond.code yX10_fewestIn cX10_fewestIn 5 (some .int)), (1042, Cond.methodLink RX10 148 yX10_fewestIn), (1044, Cond.instanceMethod yX10_fewestIn), (51, Cond.selects RX10 yX10_fewestIn yX10_fewestIn), (1041, Cond.code yX10_watching cX10_watching 3 (some .int))]
set_option maxRecDepth 20000 in
theorem Qt18 : qt18.all (fun q => decide (lw_tbl[q.1]? = some q.2) && goodWord q.2) = true := by decide +kernel
theorem w_43 : Cond.selects RX10 yX10_lets yX10_lets ∈ TB := qg Qt18 0 rfl
theorem w_1007 : Cond.code yX10_mannedSet cX10_mannedSet 3 (some .int) ∈ TB := qg Qt18 1 rfl
theorem w_1004 : Cond.methodLink RX10 128 yX10_mannedSet ∈ TB := qg Qt18 2 rfl
theorem w_1006 : Cond.instanceMethod yX10_mannedSet ∈ TB := qg Qt18 3 rfl
theorem w_45 : Cond.selects RX10 yX10_mannedSet yX10_mannedSet ∈ TB := qg Qt18 4 rfl
theorem w_1015 : Cond.code yX10_seen cX10_seen 2 (some .int) ∈ TB := qg Qt18 5 rfl
theorem w_1012 : Cond.methodLink RX10 132 yX10_seen ∈ TB := qg Qt18 6 rfl
theorem w_1014 : Cond.instanceMethod yX10_seen ∈ TB := qg Qt18 7 rfl
theorem w_47 : Cond.selects RX10 yX10_seen yX10_seen ∈ TB := qg Qt18 8 rfl
theorem w_1003 : Cond.code yX10_mans cX10_mans 3 (some .int) ∈ TB := qg Qt18 9 rfl
theorem w_1000 : Cond.methodLink RX10 135 yX10_mans ∈ TB := qg Qt18 10 rfl
theorem w_1002 : Cond.instanceMethod yX10_mans ∈ TB := qg Qt18 11 rfl
theorem w_44 : Cond.selects RX10 yX10_mans yX10_mans ∈ TB := qg Qt18 12 rfl
theorem w_1033 : Cond.code yX10_isHour cX10_isHour 1 (some .boolean) ∈ TB := qg Qt18 13 rfl
theorem w_1031 : Cond.methodLink RX10 138 yX10_isHour ∈ TB := qg Qt18 14 rfl
theorem w_1032 : Cond.static yX10_isHour ∈ TB := qg Qt18 15 rfl
theorem w_1030 : Cond.code yX10_tellsHour cX10_tellsHour 3 (some .int) ∈ TB := qg Qt18 16 rfl
theorem w_1027 : Cond.methodLink RX10 141 yX10_tellsHour ∈ TB := qg Qt18 17 rfl
theorem w_1029 : Cond.instanceMethod yX10_tellsHour ∈ TB := qg Qt18 18 rfl
theorem w_49 : Cond.selects RX10 yX10_tellsHour yX10_tellsHour ∈ TB := qg Qt18 19 rfl
theorem w_1049 : Cond.code yX10_all cX10_all 1 (some .int) ∈ TB := qg Qt18 20 rfl
theorem w_1046 : Cond.methodLink RX10 144 yX10_all ∈ TB := qg Qt18 21 rfl
theorem w_1048 : Cond.instanceMethod yX10_all ∈ TB := qg Qt18 22 rfl
theorem w_52 : Cond.selects RX10 yX10_all yX10_all ∈ TB := qg Qt18 23 rfl
theorem w_1050 : Cond.constant RX10 147 (16777215) ∈ TB := qg Qt18 24 rfl
theorem w_1045 : Cond.code yX10_fewestIn cX10_fewestIn 5 (some .int) ∈ TB := qg Qt18 25 rfl
theorem w_1042 : Cond.methodLink RX10 148 yX10_fewestIn ∈ TB := qg Qt18 26 rfl
theorem w_1044 : Cond.instanceMethod yX10_fewestIn ∈ TB := qg Qt18 27 rfl
theorem w_51 : Cond.selects RX10 yX10_fewestIn yX10_fewestIn ∈ TB := qg Qt18 28 rfl
theorem w_1041 : Cond.code yX10_watching cX10_watching 3 (some .int) ∈ TB := qg Qt18 29 rfl
def qt19 : List (Nat × Cond) := [(1038, Cond.methodLink RX10 151 yX10_watching), (1040, Cond.instanceMethod yX10_watching), (50, Cond.selects RX10 yX10_watching yX10_watching), (1066, Cond.code yX10_isFewest cX10_isFewest 3 (some .boolean)), (1063, Cond.methodLink RX10 154 yX10_isFewest), (1065, Cond.instanceMethod yX10_isFewest), (53, Cond.selects RX10 yX10_isFewest yX10_isFewest), (1082, Cond.code yX10_nextTo cX10_nextTo 7 (some .int)), (1079, Cond.methodLink RX10 157 yX10_nextTo), (1081, Cond.instanceMethod yX10_nextTo), (54, Cond.selects RX10 yX10_nextTo yX10_nextTo), (1102, Cond.code yX10_alone cX10_alone 2 (some .int)), (1099, Cond.methodLink RX10 160 yX10_alone), (1101, Cond.instanceMethod yX10_alone), (55, Cond.selects RX10 yX10_alone yX10_alone), (1106, Cond.code yX10_isNeeded cX10_isNeeded 5 (some .boolean)), (1103, Cond.methodLink RX10 163 yX10_isNeeded), (1105, Cond.instanceMethod yX10_isNeeded), (56, Cond.selects RX10 yX10_isNeeded yX10_isNeeded), (1118, Cond.code yX10_watchers cX10_watchers 4 (some .int)), (1115, Cond.methodLink RX10 166 yX10_watchers), (1117, Cond.instanceMethod yX10_watchers), (57, Cond.selects RX10 yX10_watchers yX10_watchers), (1133, Cond.code yX10_beginsGap cX10_beginsGap 2 (some .boolean)), (1131, Cond.methodLink RX10 169 yX10_beginsGap), (1132, Cond.static yX10_beginsGap), (1137, Cond.code yX10_gapLength cX10_gapLength 4 (some .int)), (1134, Cond.methodLink RX10 172 yX10_gapLength), (1136, Cond.instanceMethod yX10_gapLength), (59, Cond.selects RX10 yX10_gapLength yX10_gapLength)]
set_option maxRecDepth 20000 in
theorem Qt19 : qt19.all (fun q => decide (lw_tbl[q.1]? = some q.2) && goodWord q.2) = true := by decide +kernel
theorem w_1038 : Cond.methodLink RX10 151 yX10_watching ∈ TB := qg Qt19 0 rfl
theorem w_1040 : Cond.instanceMethod yX10_watching ∈ TB := qg Qt19 1 rfl
theorem w_50 : Cond.selects RX10 yX10_watching yX10_watching ∈ TB := qg Qt19 2 rfl
theorem w_1066 : Cond.code yX10_isFewest cX10_isFewest 3 (some .boolean) ∈ TB := qg Qt19 3 rfl
theorem w_1063 : Cond.methodLink RX10 154 yX10_isFewest ∈ TB := qg Qt19 4 rfl
theorem w_1065 : Cond.instanceMethod yX10_isFewest ∈ TB := qg Qt19 5 rfl
theorem w_53 : Cond.selects RX10 yX10_isFewest yX10_isFewest ∈ TB := qg Qt19 6 rfl
theorem w_1082 : Cond.code yX10_nextTo cX10_nextTo 7 (some .int) ∈ TB := qg Qt19 7 rfl
theorem w_1079 : Cond.methodLink RX10 157 yX10_nextTo ∈ TB := qg Qt19 8 rfl
theorem w_1081 : Cond.instanceMethod yX10_nextTo ∈ TB := qg Qt19 9 rfl
theorem w_54 : Cond.selects RX10 yX10_nextTo yX10_nextTo ∈ TB := qg Qt19 10 rfl
theorem w_1102 : Cond.code yX10_alone cX10_alone 2 (some .int) ∈ TB := qg Qt19 11 rfl
theorem w_1099 : Cond.methodLink RX10 160 yX10_alone ∈ TB := qg Qt19 12 rfl
theorem w_1101 : Cond.instanceMethod yX10_alone ∈ TB := qg Qt19 13 rfl
theorem w_55 : Cond.selects RX10 yX10_alone yX10_alone ∈ TB := qg Qt19 14 rfl
theorem w_1106 : Cond.code yX10_isNeeded cX10_isNeeded 5 (some .boolean) ∈ TB := qg Qt19 15 rfl
theorem w_1103 : Cond.methodLink RX10 163 yX10_isNeeded ∈ TB := qg Qt19 16 rfl
theorem w_1105 : Cond.instanceMethod yX10_isNeeded ∈ TB := qg Qt19 17 rfl
theorem w_56 : Cond.selects RX10 yX10_isNeeded yX10_isNeeded ∈ TB := qg Qt19 18 rfl
theorem w_1118 : Cond.code yX10_watchers cX10_watchers 4 (some .int) ∈ TB := qg Qt19 19 rfl
theorem w_1115 : Cond.methodLink RX10 166 yX10_watchers ∈ TB := qg Qt19 20 rfl
theorem w_1117 : Cond.instanceMethod yX10_watchers ∈ TB := qg Qt19 21 rfl
theorem w_57 : Cond.selects RX10 yX10_watchers yX10_watchers ∈ TB := qg Qt19 22 rfl
theorem w_1133 : Cond.code yX10_beginsGap cX10_beginsGap 2 (some .boolean) ∈ TB := qg Qt19 23 rfl
theorem w_1131 : Cond.methodLink RX10 169 yX10_beginsGap ∈ TB := qg Qt19 24 rfl
theorem w_1132 : Cond.static yX10_beginsGap ∈ TB := qg Qt19 25 rfl
theorem w_1137 : Cond.code yX10_gapLength cX10_gapLength 4 (some .int) ∈ TB := qg Qt19 26 rfl
theorem w_1134 : Cond.methodLink RX10 172 yX10_gapLength ∈ TB := qg Qt19 27 rfl
theorem w_1136 : Cond.instanceMethod yX10_gapLength ∈ TB := qg Qt19 28 rfl
theorem w_59 : Cond.selects RX10 yX10_gapLength yX10_gapLength ∈ TB := qg Qt19 29 rfl
def qt20 : List (Nat × Cond) := [(1130, Cond.code yX10_gapAt cX10_gapAt 5 (some .int)), (1127, Cond.methodLink RX10 175 yX10_gapAt), (1129, Cond.instanceMethod yX10_gapAt), (58, Cond.selects RX10 yX10_gapAt yX10_gapAt), (1141, Cond.code yX10_closest cX10_closest 7 (some .int)), (1138, Cond.methodLink RX10 178 yX10_closest), (1140, Cond.instanceMethod yX10_closest), (60, Cond.selects RX10 yX10_closest yX10_closest), (1220, Cond.code yX10_gapMany cX10_gapMany 4 (some .int)), (1217, Cond.methodLink RX10 181 yX10_gapMany), (1219, Cond.instanceMethod yX10_gapMany), (71, Cond.selects RX10 yX10_gapMany yX10_gapMany), (1149, Cond.code yX10_isAhead cX10_isAhead 5 (some .boolean)), (1146, Cond.methodLink RX10 184 yX10_isAhead), (1148, Cond.instanceMethod yX10_isAhead), (61, Cond.selects RX10 yX10_isAhead yX10_isAhead), (855, Cond.fieldLink RX10 26 "FortressWatchModel" "line" "[I"), (856, Cond.fieldLink RX10 187 "FortressWatchModel" "lined" "I"), (1161, Cond.code yX10_puts cX10_puts 2 none), (1158, Cond.methodLink RX10 194 yX10_puts), (1160, Cond.instanceMethod yX10_puts), (63, Cond.selects RX10 yX10_puts yX10_puts), (1157, Cond.code yX10_number cX10_number 2 none), (1154, Cond.methodLink RX10 190 yX10_number), (1156, Cond.instanceMethod yX10_number), (62, Cond.selects RX10 yX10_number yX10_number), (859, Cond.fieldLink RX10 197 "FortressWatchModel" "taped" "I"), (857, Cond.fieldLink RX10 29 "FortressWatchModel" "tape" "[I"), (860, Cond.fieldLink RX10 200 "FortressWatchModel" "here" "I"), (1189, Cond.code yX10_signHere cX10_signHere 1 (some .int))]
set_option maxRecDepth 20000 in
theorem Qt20 : qt20.all (fun q => decide (lw_tbl[q.1]? = some q.2) && goodWord q.2) = true := by decide +kernel
theorem w_1130 : Cond.code yX10_gapAt cX10_gapAt 5 (some .int) ∈ TB := qg Qt20 0 rfl
theorem w_1127 : Cond.methodLink RX10 175 yX10_gapAt ∈ TB := qg Qt20 1 rfl
theorem w_1129 : Cond.instanceMethod yX10_gapAt ∈ TB := qg Qt20 2 rfl
theorem w_58 : Cond.selects RX10 yX10_gapAt yX10_gapAt ∈ TB := qg Qt20 3 rfl
theorem w_1141 : Cond.code yX10_closest cX10_closest 7 (some .int) ∈ TB := qg Qt20 4 rfl
theorem w_1138 : Cond.methodLink RX10 178 yX10_closest ∈ TB := qg Qt20 5 rfl
theorem w_1140 : Cond.instanceMethod yX10_closest ∈ TB := qg Qt20 6 rfl
theorem w_60 : Cond.selects RX10 yX10_closest yX10_closest ∈ TB := qg Qt20 7 rfl
theorem w_1220 : Cond.code yX10_gapMany cX10_gapMany 4 (some .int) ∈ TB := qg Qt20 8 rfl
theorem w_1217 : Cond.methodLink RX10 181 yX10_gapMany ∈ TB := qg Qt20 9 rfl
theorem w_1219 : Cond.instanceMethod yX10_gapMany ∈ TB := qg Qt20 10 rfl
theorem w_71 : Cond.selects RX10 yX10_gapMany yX10_gapMany ∈ TB := qg Qt20 11 rfl
theorem w_1149 : Cond.code yX10_isAhead cX10_isAhead 5 (some .boolean) ∈ TB := qg Qt20 12 rfl
theorem w_1146 : Cond.methodLink RX10 184 yX10_isAhead ∈ TB := qg Qt20 13 rfl
theorem w_1148 : Cond.instanceMethod yX10_isAhead ∈ TB := qg Qt20 14 rfl
theorem w_61 : Cond.selects RX10 yX10_isAhead yX10_isAhead ∈ TB := qg Qt20 15 rfl
theorem w_855 : Cond.fieldLink RX10 26 "FortressWatchModel" "line" "[I" ∈ TB := qg Qt20 16 rfl
theorem w_856 : Cond.fieldLink RX10 187 "FortressWatchModel" "lined" "I" ∈ TB := qg Qt20 17 rfl
theorem w_1161 : Cond.code yX10_puts cX10_puts 2 none ∈ TB := qg Qt20 18 rfl
theorem w_1158 : Cond.methodLink RX10 194 yX10_puts ∈ TB := qg Qt20 19 rfl
theorem w_1160 : Cond.instanceMethod yX10_puts ∈ TB := qg Qt20 20 rfl
theorem w_63 : Cond.selects RX10 yX10_puts yX10_puts ∈ TB := qg Qt20 21 rfl
theorem w_1157 : Cond.code yX10_number cX10_number 2 none ∈ TB := qg Qt20 22 rfl
theorem w_1154 : Cond.methodLink RX10 190 yX10_number ∈ TB := qg Qt20 23 rfl
theorem w_1156 : Cond.instanceMethod yX10_number ∈ TB := qg Qt20 24 rfl
theorem w_62 : Cond.selects RX10 yX10_number yX10_number ∈ TB := qg Qt20 25 rfl
theorem w_859 : Cond.fieldLink RX10 197 "FortressWatchModel" "taped" "I" ∈ TB := qg Qt20 26 rfl
theorem w_857 : Cond.fieldLink RX10 29 "FortressWatchModel" "tape" "[I" ∈ TB := qg Qt20 27 rfl
theorem w_860 : Cond.fieldLink RX10 200 "FortressWatchModel" "here" "I" ∈ TB := qg Qt20 28 rfl
theorem w_1189 : Cond.code yX10_signHere cX10_signHere 1 (some .int) ∈ TB := qg Qt20 29 rfl
def qt21 : List (Nat × Cond) := [(1186, Cond.methodLink RX10 203 yX10_signHere), (1188, Cond.instanceMethod yX10_signHere), (66, Cond.selects RX10 yX10_signHere yX10_signHere), (858, Cond.fieldLink RX10 32 "FortressWatchModel" "commands" "[I"), (861, Cond.fieldLink RX10 206 "FortressWatchModel" "commandMany" "I"), (1192, Cond.code yX10_isKind cX10_isKind 1 (some .boolean)), (1190, Cond.methodLink RX10 209 yX10_isKind), (1191, Cond.static yX10_isKind), (1196, Cond.code yX10_isNumber cX10_isNumber 5 (some .boolean)), (1193, Cond.methodLink RX10 212 yX10_isNumber), (1195, Cond.instanceMethod yX10_isNumber), (67, Cond.selects RX10 yX10_isNumber yX10_isNumber), (1200, Cond.code yX10_isHere cX10_isHere 3 (some .boolean)), (1197, Cond.methodLink RX10 215 yX10_isHere), (1199, Cond.instanceMethod yX10_isHere), (68, Cond.selects RX10 yX10_isHere yX10_isHere), (1185, Cond.code yX10_readsCommand cX10_readsCommand 3 (some .boolean)), (1182, Cond.methodLink RX10 218 yX10_readsCommand), (1184, Cond.instanceMethod yX10_readsCommand), (65, Cond.selects RX10 yX10_readsCommand yX10_readsCommand), (1181, Cond.code yX10_isText cX10_isText 2 (some .boolean)), (1178, Cond.methodLink RX10 222 yX10_isText), (1180, Cond.instanceMethod yX10_isText), (64, Cond.selects RX10 yX10_isText yX10_isText), (1204, Cond.code yX10_does cX10_does 5 (some .int)), (1201, Cond.methodLink RX10 225 yX10_does), (1203, Cond.instanceMethod yX10_does), (69, Cond.selects RX10 yX10_does yX10_does), (1216, Cond.code yX10_overlaps cX10_overlaps 3 (some .int)), (1213, Cond.methodLink RX10 228 yX10_overlaps)]
set_option maxRecDepth 20000 in
theorem Qt21 : qt21.all (fun q => decide (lw_tbl[q.1]? = some q.2) && goodWord q.2) = true := by decide +kernel
theorem w_1186 : Cond.methodLink RX10 203 yX10_signHere ∈ TB := qg Qt21 0 rfl
theorem w_1188 : Cond.instanceMethod yX10_signHere ∈ TB := qg Qt21 1 rfl
theorem w_66 : Cond.selects RX10 yX10_signHere yX10_signHere ∈ TB := qg Qt21 2 rfl
theorem w_858 : Cond.fieldLink RX10 32 "FortressWatchModel" "commands" "[I" ∈ TB := qg Qt21 3 rfl
theorem w_861 : Cond.fieldLink RX10 206 "FortressWatchModel" "commandMany" "I" ∈ TB := qg Qt21 4 rfl
theorem w_1192 : Cond.code yX10_isKind cX10_isKind 1 (some .boolean) ∈ TB := qg Qt21 5 rfl
theorem w_1190 : Cond.methodLink RX10 209 yX10_isKind ∈ TB := qg Qt21 6 rfl
theorem w_1191 : Cond.static yX10_isKind ∈ TB := qg Qt21 7 rfl
theorem w_1196 : Cond.code yX10_isNumber cX10_isNumber 5 (some .boolean) ∈ TB := qg Qt21 8 rfl
theorem w_1193 : Cond.methodLink RX10 212 yX10_isNumber ∈ TB := qg Qt21 9 rfl
theorem w_1195 : Cond.instanceMethod yX10_isNumber ∈ TB := qg Qt21 10 rfl
theorem w_67 : Cond.selects RX10 yX10_isNumber yX10_isNumber ∈ TB := qg Qt21 11 rfl
theorem w_1200 : Cond.code yX10_isHere cX10_isHere 3 (some .boolean) ∈ TB := qg Qt21 12 rfl
theorem w_1197 : Cond.methodLink RX10 215 yX10_isHere ∈ TB := qg Qt21 13 rfl
theorem w_1199 : Cond.instanceMethod yX10_isHere ∈ TB := qg Qt21 14 rfl
theorem w_68 : Cond.selects RX10 yX10_isHere yX10_isHere ∈ TB := qg Qt21 15 rfl
theorem w_1185 : Cond.code yX10_readsCommand cX10_readsCommand 3 (some .boolean) ∈ TB := qg Qt21 16 rfl
theorem w_1182 : Cond.methodLink RX10 218 yX10_readsCommand ∈ TB := qg Qt21 17 rfl
theorem w_1184 : Cond.instanceMethod yX10_readsCommand ∈ TB := qg Qt21 18 rfl
theorem w_65 : Cond.selects RX10 yX10_readsCommand yX10_readsCommand ∈ TB := qg Qt21 19 rfl
theorem w_1181 : Cond.code yX10_isText cX10_isText 2 (some .boolean) ∈ TB := qg Qt21 20 rfl
theorem w_1178 : Cond.methodLink RX10 222 yX10_isText ∈ TB := qg Qt21 21 rfl
theorem w_1180 : Cond.instanceMethod yX10_isText ∈ TB := qg Qt21 22 rfl
theorem w_64 : Cond.selects RX10 yX10_isText yX10_isText ∈ TB := qg Qt21 23 rfl
theorem w_1204 : Cond.code yX10_does cX10_does 5 (some .int) ∈ TB := qg Qt21 24 rfl
theorem w_1201 : Cond.methodLink RX10 225 yX10_does ∈ TB := qg Qt21 25 rfl
theorem w_1203 : Cond.instanceMethod yX10_does ∈ TB := qg Qt21 26 rfl
theorem w_69 : Cond.selects RX10 yX10_does yX10_does ∈ TB := qg Qt21 27 rfl
theorem w_1216 : Cond.code yX10_overlaps cX10_overlaps 3 (some .int) ∈ TB := qg Qt21 28 rfl
theorem w_1213 : Cond.methodLink RX10 228 yX10_overlaps ∈ TB := qg Qt21 29 rfl
def qt22 : List (Nat × Cond) := [(1215, Cond.instanceMethod yX10_overlaps), (70, Cond.selects RX10 yX10_overlaps yX10_overlaps), (1224, Cond.code yX10_longestGap cX10_longestGap 3 (some .int)), (1221, Cond.methodLink RX10 231 yX10_longestGap), (1223, Cond.instanceMethod yX10_longestGap), (72, Cond.selects RX10 yX10_longestGap yX10_longestGap), (1233, Cond.constantFloat RX10 234 (1103101952)), (1236, Cond.code yJxf58ca_floatToIntBits_5c35a cJxf58ca_floatToIntBits_5c35a 1 (some .int)), (1234, Cond.methodLink RX10 235 yJxf58ca_floatToIntBits_5c35a), (1235, Cond.static yJxf58ca_floatToIntBits_5c35a), (87, Cond.initialized RJxf58ca), (1239, Cond.code yJxf58ca_isNaN_12338 cJxf58ca_isNaN_12338 1 (some .boolean)), (1237, Cond.methodLink RJxf58ca 59 yJxf58ca_isNaN_12338), (1238, Cond.static yJxf58ca_isNaN_12338), (1243, Cond.constant RJxf58ca 77 (2143289344)), (1240, Cond.methodLink RJxf58ca 74 ⟨"java/lang/Float", "floatToRawIntBits", "(F)I"⟩), (1242, Cond.native ⟨"java/lang/Float", "floatToRawIntBits", "(F)I"⟩), (1241, Cond.static ⟨"java/lang/Float", "floatToRawIntBits", "(F)I"⟩), (848, Cond.fieldLink RX10 16 "FortressWatchModel" "saved" "[I"), (854, Cond.fieldLink RX10 241 "FortressWatchModel" "isSaved" "Z")]
set_option maxRecDepth 20000 in
theorem Qt22 : qt22.all (fun q => decide (lw_tbl[q.1]? = some q.2) && goodWord q.2) = true := by decide +kernel
theorem w_1215 : Cond.instanceMethod yX10_overlaps ∈ TB := qg Qt22 0 rfl
theorem w_70 : Cond.selects RX10 yX10_overlaps yX10_overlaps ∈ TB := qg Qt22 1 rfl
theorem w_1224 : Cond.code yX10_longestGap cX10_longestGap 3 (some .int) ∈ TB := qg Qt22 2 rfl
theorem w_1221 : Cond.methodLink RX10 231 yX10_longestGap ∈ TB := qg Qt22 3 rfl
theorem w_1223 : Cond.instanceMethod yX10_longestGap ∈ TB := qg Qt22 4 rfl
theorem w_72 : Cond.selects RX10 yX10_longestGap yX10_longestGap ∈ TB := qg Qt22 5 rfl
theorem w_1233 : Cond.constantFloat RX10 234 (1103101952) ∈ TB := qg Qt22 6 rfl
theorem w_1236 : Cond.code yJxf58ca_floatToIntBits_5c35a cJxf58ca_floatToIntBits_5c35a 1 (some .int) ∈ TB := qg Qt22 7 rfl
theorem w_1234 : Cond.methodLink RX10 235 yJxf58ca_floatToIntBits_5c35a ∈ TB := qg Qt22 8 rfl
theorem w_1235 : Cond.static yJxf58ca_floatToIntBits_5c35a ∈ TB := qg Qt22 9 rfl
theorem w_87 : Cond.initialized RJxf58ca ∈ TB := qg Qt22 10 rfl
theorem w_1239 : Cond.code yJxf58ca_isNaN_12338 cJxf58ca_isNaN_12338 1 (some .boolean) ∈ TB := qg Qt22 11 rfl
theorem w_1237 : Cond.methodLink RJxf58ca 59 yJxf58ca_isNaN_12338 ∈ TB := qg Qt22 12 rfl
theorem w_1238 : Cond.static yJxf58ca_isNaN_12338 ∈ TB := qg Qt22 13 rfl
theorem w_1243 : Cond.constant RJxf58ca 77 (2143289344) ∈ TB := qg Qt22 14 rfl
theorem w_1240 : Cond.methodLink RJxf58ca 74 ⟨"java/lang/Float", "floatToRawIntBits", "(F)I"⟩ ∈ TB := qg Qt22 15 rfl
theorem w_1242 : Cond.native ⟨"java/lang/Float", "floatToRawIntBits", "(F)I"⟩ ∈ TB := qg Qt22 16 rfl
theorem w_1241 : Cond.static ⟨"java/lang/Float", "floatToRawIntBits", "(F)I"⟩ ∈ TB := qg Qt22 17 rfl
theorem w_848 : Cond.fieldLink RX10 16 "FortressWatchModel" "saved" "[I" ∈ TB := qg Qt22 18 rfl
theorem w_854 : Cond.fieldLink RX10 241 "FortressWatchModel" "isSaved" "Z" ∈ TB := qg Qt22 19 rfl
theorem fX0_18 : Fd8 RX0 18 0 2 := ⟨RX0, TX0, 5, rfl, inX0, tyE0, nmX0, by decide, w_196, rfl⟩
theorem fp0_2 : ∀ C T N', vwCl[0]? = some (C, T, N') → (T 2).2.2.2 = false ∧ parseFieldDescriptor (T 2).2.2.1 = some .int := fun C T N h => by cases h; exact ⟨rfl, by decide +kernel⟩
theorem fX0_22 : Fd8 RX0 22 0 3 := ⟨RX0, TX0, 5, rfl, inX0, tyE0, nmX0, by decide, w_198, rfl⟩
theorem fp0_3 : ∀ C T N', vwCl[0]? = some (C, T, N') → (T 3).2.2.2 = false ∧ parseFieldDescriptor (T 3).2.2.1 = some .int := fun C T N h => by cases h; exact ⟨rfl, by decide +kernel⟩
theorem fX0_25 : Fd8 RX0 25 0 4 := ⟨RX0, TX0, 5, rfl, inX0, tyE0, nmX0, by decide, w_200, rfl⟩
theorem fp0_4 : ∀ C T N', vwCl[0]? = some (C, T, N') → (T 4).2.2.2 = false ∧ parseFieldDescriptor (T 4).2.2.1 = some .int := fun C T N h => by cases h; exact ⟨rfl, by decide +kernel⟩
theorem fX0_28 : Fd8 RX0 28 6 1 := ⟨RX6, TX6, 3, rfl, inX6, tyE6, nmX6, by decide, w_178, rfl⟩
theorem kX0_33 : WV RX0 33 RX0 yX0_fillSets cX0_fillSets 6 none 1 := ⟨w_517, w_514, w_516, w_14, w_78, by decide +kernel⟩
theorem fX0_9 : Fd8 RX0 9 0 0 := ⟨RX0, TX0, 5, rfl, inX0, tyE0, nmX0, by decide, w_194, rfl⟩
theorem kX0_44 : WV RX0 44 RX6 yX6_of cX6_of 2 (some .int) 1 := ⟨w_456, w_518, w_454, w_455, w_77, by decide +kernel⟩
theorem fX6_9 : Fd8 RX6 9 6 0 := ⟨RX6, TX6, 3, rfl, inX6, tyE6, nmX6, by decide, w_176, rfl⟩
theorem kX0_37 : WS RX0 37 yJ6_bitCount_0f7a4 cJ6_bitCount_0f7a4 1 (some .int) 1 := ⟨w_459, w_519, w_458, w_86, by decide +kernel⟩
theorem fX0_15 : Fd8 RX0 15 0 1 := ⟨RX0, TX0, 5, rfl, inX0, tyE0, nmX0, by decide, w_195, rfl⟩
theorem kX0_50 : WS RX0 50 yX0_search cX0_search 9 (some .int) 6 := ⟨w_612, w_610, w_611, w_78, by decide +kernel⟩
theorem kX0_58 : WS RX0 58 yX0_fewestSeers cX0_fewestSeers 6 (some .int) 2 := ⟨w_618, w_616, w_617, w_78, by decide +kernel⟩
theorem kX0_62 : WSN RX0 62 RX9 yX9_isIn cX9_isIn 2 (some .boolean) 2 := ⟨w_489, List.mem_of_getElem? (i := 11) rfl, w_488, w_74, by decide +kernel⟩
theorem kX0_54 : WS RX0 54 yX0_better cX0_better 3 (some .int) 2 := ⟨w_615, w_613, w_614, w_78, by decide +kernel⟩
theorem kX0_47 : WV RX0 47 RX6 yX6_seersOf cX6_seersOf 4 (some .int) 1 := ⟨w_554, w_609, w_552, w_553, w_77, by decide +kernel⟩
theorem fX1_18 : Fd8 RX1 18 1 2 := ⟨RX1, TX1, 3, rfl, inX1, tyE1, nmX1, by decide, w_221, rfl⟩
theorem fp1_2 : ∀ C T N', vwCl[1]? = some (C, T, N') → (T 2).2.2.2 = false ∧ parseFieldDescriptor (T 2).2.2.1 = some .int := fun C T N h => by cases h; exact ⟨rfl, by decide +kernel⟩
theorem kX1_26 : WSN RX1 26 RX9 yX9_turned cX9_turned 2 (some .int) 2 := ⟨w_573, List.mem_of_getElem? (i := 9) rfl, w_572, w_74, by decide +kernel⟩
theorem kX1_30 : WSN RX1 30 RX9 yX9_isIn cX9_isIn 2 (some .boolean) 2 := ⟨w_489, List.mem_of_getElem? (i := 10) rfl, w_488, w_74, by decide +kernel⟩
theorem kX1_34 : WS RX1 34 yX1_openFrom cX1_openFrom 4 (some .int) 2 := ⟨w_578, w_576, w_577, w_79, by decide +kernel⟩
theorem kX1_22 : WV RX1 22 RX1 yX1_add cX1_add 3 none 2 := ⟨w_570, w_567, w_569, w_16, w_79, by decide +kernel⟩
theorem fX1_9 : Fd8 RX1 9 1 0 := ⟨RX1, TX1, 3, rfl, inX1, tyE1, nmX1, by decide, w_219, rfl⟩
theorem fX1_15 : Fd8 RX1 15 1 1 := ⟨RX1, TX1, 3, rfl, inX1, tyE1, nmX1, by decide, w_220, rfl⟩
theorem kX1_37 : WV RX1 37 RX1 yX1_isGap cX1_isGap 2 (some .boolean) 1 := ⟨w_582, w_587, w_580, w_581, w_79, by decide +kernel⟩
theorem kX1_41 : WV RX1 41 RX1 yX1_lengthOf cX1_lengthOf 2 (some .int) 1 := ⟨w_591, w_800, w_589, w_590, w_79, by decide +kernel⟩
theorem fX2_15 : Fd8 RX2 15 2 1 := ⟨RX2, TX2, 2, rfl, inX2, tyE2, nmX2, by decide, w_280, rfl⟩
theorem fp2_1 : ∀ C T N', vwCl[2]? = some (C, T, N') → (T 1).2.2.2 = false ∧ parseFieldDescriptor (T 1).2.2.1 = some .int := fun C T N h => by cases h; exact ⟨rfl, by decide +kernel⟩
theorem fX2_9 : Fd8 RX2 9 2 0 := ⟨RX2, TX2, 2, rfl, inX2, tyE2, nmX2, by decide, w_279, rfl⟩
theorem kX2_19 : WV RX2 19 RX2 yX2_put cX2_put 2 none 1 := ⟨w_688, w_685, w_686, w_687, w_82, by decide +kernel⟩
theorem fX3_9 : Fd8 RX3 9 3 0 := ⟨RX3, TX3, 1, rfl, inX3, tyE3, nmX3, by decide, w_236, rfl⟩
theorem kX3_15 : WV RX3 15 RX3 yX3_placeOf cX3_placeOf 5 (some .int) 2 := ⟨w_672, w_669, w_671, w_19, w_80, by decide +kernel⟩
theorem fX4_11 : Fd8 RX4 11 4 0 := ⟨RX4, TX4, 3, rfl, inX4, tyE4, nmX4, by decide, w_159, rfl⟩
theorem fX4_18 : Fd8 RX4 18 4 1 := ⟨RX4, TX4, 3, rfl, inX4, tyE4, nmX4, by decide, w_160, rfl⟩
theorem kX4_22 : WV RX4 22 RX8 yX8_copyFrom cX8_copyFrom 3 none 1 := ⟨w_350, w_390, w_348, w_349, w_75, by decide +kernel⟩
theorem fX8_38 : Fd8 RX8 38 8 6 := ⟨RX8, TX8, 11, rfl, inX8, tyE8, nmX8, by decide, w_119, rfl⟩
theorem fp8_6 : ∀ C T N', vwCl[8]? = some (C, T, N') → (T 6).2.2.2 = false ∧ parseFieldDescriptor (T 6).2.2.1 = some .int := fun C T N h => by cases h; exact ⟨rfl, by decide +kernel⟩
theorem fX8_42 : Fd8 RX8 42 8 7 := ⟨RX8, TX8, 11, rfl, inX8, tyE8, nmX8, by decide, w_121, rfl⟩
theorem fp8_7 : ∀ C T N', vwCl[8]? = some (C, T, N') → (T 7).2.2.2 = false ∧ parseFieldDescriptor (T 7).2.2.1 = some .int := fun C T N h => by cases h; exact ⟨rfl, by decide +kernel⟩
theorem fX8_45 : Fd8 RX8 45 8 8 := ⟨RX8, TX8, 11, rfl, inX8, tyE8, nmX8, by decide, w_123, rfl⟩
theorem fp8_8 : ∀ C T N', vwCl[8]? = some (C, T, N') → (T 8).2.2.2 = false ∧ parseFieldDescriptor (T 8).2.2.1 = some .int := fun C T N h => by cases h; exact ⟨rfl, by decide +kernel⟩
theorem fX8_48 : Fd8 RX8 48 8 9 := ⟨RX8, TX8, 11, rfl, inX8, tyE8, nmX8, by decide, w_124, rfl⟩
theorem fp8_9 : ∀ C T N', vwCl[8]? = some (C, T, N') → (T 9).2.2.2 = false ∧ parseFieldDescriptor (T 9).2.2.1 = some .int := fun C T N h => by cases h; exact ⟨rfl, by decide +kernel⟩
theorem fX8_51 : Fd8 RX8 51 8 10 := ⟨RX8, TX8, 11, rfl, inX8, tyE8, nmX8, by decide, w_125, rfl⟩
theorem fp8_10 : ∀ C T N', vwCl[8]? = some (C, T, N') → (T 10).2.2.2 = false ∧ parseFieldDescriptor (T 10).2.2.1 = some .int := fun C T N h => by cases h; exact ⟨rfl, by decide +kernel⟩
theorem kX8_34 : WV RX8 34 RX8 yX8_copyPlace cX8_copyPlace 4 none 3 := ⟨w_354, w_351, w_353, w_1, w_75, by decide +kernel⟩
theorem fX8_9 : Fd8 RX8 9 8 0 := ⟨RX8, TX8, 11, rfl, inX8, tyE8, nmX8, by decide, w_106, rfl⟩
theorem fX8_15 : Fd8 RX8 15 8 1 := ⟨RX8, TX8, 11, rfl, inX8, tyE8, nmX8, by decide, w_107, rfl⟩
theorem fX8_18 : Fd8 RX8 18 8 2 := ⟨RX8, TX8, 11, rfl, inX8, tyE8, nmX8, by decide, w_109, rfl⟩
theorem fX8_21 : Fd8 RX8 21 8 3 := ⟨RX8, TX8, 11, rfl, inX8, tyE8, nmX8, by decide, w_111, rfl⟩
theorem fX8_24 : Fd8 RX8 24 8 4 := ⟨RX8, TX8, 11, rfl, inX8, tyE8, nmX8, by decide, w_113, rfl⟩
theorem fX8_27 : Fd8 RX8 27 8 5 := ⟨RX8, TX8, 11, rfl, inX8, tyE8, nmX8, by decide, w_115, rfl⟩
theorem fp4_1 : ∀ C T N', vwCl[4]? = some (C, T, N') → (T 1).2.2.2 = false ∧ parseFieldDescriptor (T 1).2.2.1 = some .int := fun C T N h => by cases h; exact ⟨rfl, by decide +kernel⟩
theorem fX4_26 : Fd8 RX4 26 4 2 := ⟨RX4, TX4, 3, rfl, inX4, tyE4, nmX4, by decide, w_161, rfl⟩
theorem fp4_2 : ∀ C T N', vwCl[4]? = some (C, T, N') → (T 2).2.2.2 = false ∧ parseFieldDescriptor (T 2).2.2.1 = some .int := fun C T N h => by cases h; exact ⟨rfl, by decide +kernel⟩
theorem fX5_9 : Fd8 RX5 9 5 0 := ⟨RX5, TX5, 3, rfl, inX5, tyE5, nmX5, by decide, w_293, rfl⟩
theorem fp5_0 : ∀ C T N', vwCl[5]? = some (C, T, N') → (T 0).2.2.2 = false ∧ parseFieldDescriptor (T 0).2.2.1 = some .int := fun C T N h => by cases h; exact ⟨rfl, by decide +kernel⟩
theorem fX5_15 : Fd8 RX5 15 5 1 := ⟨RX5, TX5, 3, rfl, inX5, tyE5, nmX5, by decide, w_294, rfl⟩
theorem fp5_1 : ∀ C T N', vwCl[5]? = some (C, T, N') → (T 1).2.2.2 = false ∧ parseFieldDescriptor (T 1).2.2.1 = some .int := fun C T N h => by cases h; exact ⟨rfl, by decide +kernel⟩
theorem fX5_18 : Fd8 RX5 18 5 2 := ⟨RX5, TX5, 3, rfl, inX5, tyE5, nmX5, by decide, w_295, rfl⟩
theorem fp5_2 : ∀ C T N', vwCl[5]? = some (C, T, N') → (T 2).2.2.2 = false ∧ parseFieldDescriptor (T 2).2.2.1 = some .int := fun C T N h => by cases h; exact ⟨rfl, by decide +kernel⟩
theorem fX6_15 : Fd8 RX6 15 8 6 := ⟨RX8, TX8, 11, rfl, inX8, tyE8, nmX8, by decide, w_118, rfl⟩
theorem fX6_21 : Fd8 RX6 21 6 1 := ⟨RX6, TX6, 3, rfl, inX6, tyE6, nmX6, by decide, w_177, rfl⟩
theorem fp6_1 : ∀ C T N', vwCl[6]? = some (C, T, N') → (T 1).2.2.2 = false ∧ parseFieldDescriptor (T 1).2.2.1 = some .int := fun C T N h => by cases h; exact ⟨rfl, by decide +kernel⟩
theorem fX6_22 : Fd8 RX6 22 6 2 := ⟨RX6, TX6, 3, rfl, inX6, tyE6, nmX6, by decide, w_179, rfl⟩
theorem fp6_2 : ∀ C T N', vwCl[6]? = some (C, T, N') → (T 2).2.2.2 = false ∧ parseFieldDescriptor (T 2).2.2.1 = some .int := fun C T N h => by cases h; exact ⟨rfl, by decide +kernel⟩
theorem kX6_25 : WV RX6 25 RX8 yX8_sightOf cX8_sightOf 8 (some .int) 2 := ⟨w_437, w_434, w_435, w_436, w_75, by decide +kernel⟩
theorem kX8_58 : WV RX8 58 RX8 yX8_isPost cX8_isPost 2 (some .boolean) 1 := ⟨w_405, w_438, w_403, w_404, w_75, by decide +kernel⟩
theorem kX8_62 : WS RX8 62 yX8_lostByLight cX8_lostByLight 1 (some .int) 1 := ⟨w_441, w_439, w_440, w_75, by decide +kernel⟩
theorem kX8_71 : WSN RX8 71 RX9 yX9_stretch cX9_stretch 4 (some .int) 2 := ⟨w_447, List.mem_of_getElem? (i := 7) rfl, w_446, w_74, by decide +kernel⟩
theorem fX6_29 : Fd8 RX6 29 8 5 := ⟨RX8, TX8, 11, rfl, inX8, tyE8, nmX8, by decide, w_116, rfl⟩
theorem kX6_31 : WV RX6 31 RX6 yX6_of cX6_of 2 (some .int) 1 := ⟨w_456, w_453, w_454, w_455, w_77, by decide +kernel⟩
theorem kX6_35 : WS RX6 35 yJ6_bitCount_0f7a4 cJ6_bitCount_0f7a4 1 (some .int) 1 := ⟨w_459, w_457, w_458, w_86, by decide +kernel⟩
theorem kX6_40 : WV RX6 40 RX6 yX6_seenBySet cX6_seenBySet 4 (some .int) 1 := ⟨w_486, w_541, w_484, w_485, w_77, by decide +kernel⟩
theorem kX6_43 : WSN RX6 43 RX9 yX9_isIn cX9_isIn 2 (some .boolean) 2 := ⟨w_489, List.mem_of_getElem? (i := 8) rfl, w_488, w_74, by decide +kernel⟩
theorem fX7_15 : Fd8 RX7 15 7 2 := ⟨RX7, TX7, 7, rfl, inX7, tyE7, nmX7, by decide, w_248, rfl⟩
theorem fX7_9 : Fd8 RX7 9 7 0 := ⟨RX7, TX7, 7, rfl, inX7, tyE7, nmX7, by decide, w_246, rfl⟩
theorem fp7_2 : ∀ C T N', vwCl[7]? = some (C, T, N') → (T 2).2.2.2 = false ∧ parseFieldDescriptor (T 2).2.2.1 = some .int := fun C T N h => by cases h; exact ⟨rfl, by decide +kernel⟩
theorem fX7_19 : Fd8 RX7 19 7 1 := ⟨RX7, TX7, 7, rfl, inX7, tyE7, nmX7, by decide, w_247, rfl⟩
theorem fp7_1 : ∀ C T N', vwCl[7]? = some (C, T, N') → (T 1).2.2.2 = false ∧ parseFieldDescriptor (T 1).2.2.1 = some .int := fun C T N h => by cases h; exact ⟨rfl, by decide +kernel⟩
theorem kX7_22 : WV RX7 22 RX7 yX7_rewind cX7_rewind 1 none 0 := ⟨w_728, w_725, w_726, w_727, w_81, by decide +kernel⟩
theorem kX7_25 : WV RX7 25 RX7 yX7_takeCommand cX7_takeCommand 1 (some .boolean) 0 := ⟨w_732, w_729, w_730, w_731, w_81, by decide +kernel⟩
theorem kX7_33 : WV RX7 33 RX7 yX7_codeHere cX7_codeHere 1 (some .int) 0 := ⟨w_736, w_733, w_735, w_21, w_81, by decide +kernel⟩
theorem fX7_37 : Fd8 RX7 37 7 3 := ⟨RX7, TX7, 7, rfl, inX7, tyE7, nmX7, by decide, w_250, rfl⟩
theorem fp7_3 : ∀ C T N', vwCl[7]? = some (C, T, N') → (T 3).2.2.2 = false ∧ parseFieldDescriptor (T 3).2.2.1 = some .int := fun C T N h => by cases h; exact ⟨rfl, by decide +kernel⟩
theorem kX7_29 : WV RX7 29 RX7 yX7_skip cX7_skip 2 (some .boolean) 1 := ⟨w_740, w_737, w_738, w_739, w_81, by decide +kernel⟩
theorem kX7_40 : WV RX7 40 RX7 yX7_takeFirst cX7_takeFirst 2 (some .boolean) 1 := ⟨w_744, w_741, w_743, w_22, w_81, by decide +kernel⟩
theorem kX7_49 : WV RX7 49 RX7 yX7_takeNumber cX7_takeNumber 5 (some .int) 1 := ⟨w_748, w_745, w_747, w_23, w_81, by decide +kernel⟩
theorem fX7_53 : Fd8 RX7 53 7 4 := ⟨RX7, TX7, 7, rfl, inX7, tyE7, nmX7, by decide, w_252, rfl⟩
theorem fp7_4 : ∀ C T N', vwCl[7]? = some (C, T, N') → (T 4).2.2.2 = false ∧ parseFieldDescriptor (T 4).2.2.1 = some .int := fun C T N h => by cases h; exact ⟨rfl, by decide +kernel⟩
theorem kX7_43 : WV RX7 43 RX7 yX7_takeSecond cX7_takeSecond 2 (some .boolean) 1 := ⟨w_752, w_749, w_751, w_24, w_81, by decide +kernel⟩
theorem fX7_56 : Fd8 RX7 56 7 5 := ⟨RX7, TX7, 7, rfl, inX7, tyE7, nmX7, by decide, w_254, rfl⟩
theorem fp7_5 : ∀ C T N', vwCl[7]? = some (C, T, N') → (T 5).2.2.2 = false ∧ parseFieldDescriptor (T 5).2.2.1 = some .int := fun C T N h => by cases h; exact ⟨rfl, by decide +kernel⟩
theorem kX7_46 : WV RX7 46 RX7 yX7_takeThird cX7_takeThird 2 (some .boolean) 1 := ⟨w_756, w_753, w_755, w_25, w_81, by decide +kernel⟩
theorem fX7_59 : Fd8 RX7 59 7 6 := ⟨RX7, TX7, 7, rfl, inX7, tyE7, nmX7, by decide, w_256, rfl⟩
theorem fp7_6 : ∀ C T N', vwCl[7]? = some (C, T, N') → (T 6).2.2.2 = false ∧ parseFieldDescriptor (T 6).2.2.1 = some .int := fun C T N h => by cases h; exact ⟨rfl, by decide +kernel⟩
theorem kX8_54 : WV RX8 54 RX8 yX8_postOn cX8_postOn 3 (some .int) 1 := ⟨w_368, w_381, w_366, w_367, w_75, by decide +kernel⟩
theorem kX8_30 : WV RX8 30 RX8 yX8_empty cX8_empty 2 none 1 := ⟨w_105, w_102, w_104, w_0, w_75, by decide +kernel⟩
theorem fX9_16 : Fd8 RX9 16 9 1 := ⟨RX9, TX9, 13, rfl, inX9, tyE9, nmX9, by decide, w_304, rfl⟩
theorem fX9_10 : Fd8 RX9 10 9 0 := ⟨RX9, TX9, 13, rfl, inX9, tyE9, nmX9, by decide, w_303, rfl⟩
theorem kX9_86 : WV RX9 86 RX8 yX8_copyFrom cX8_copyFrom 3 none 1 := ⟨w_350, w_347, w_348, w_349, w_75, by decide +kernel⟩
theorem kX9_90 : WV RX9 90 RX9 yX9_buildPost cX9_buildPost 5 (some .int) 3 := ⟨w_358, w_355, w_357, w_2, w_74, by decide +kernel⟩
theorem kX9_154 : WS RX9 154 yX9_isStone cX9_isStone 1 (some .boolean) 1 := ⟨w_361, w_359, w_360, w_74, by decide +kernel⟩
theorem kX9_293 : WS RX9 293 yX9_isReach cX9_isReach 1 (some .boolean) 1 := ⟨w_364, w_362, w_363, w_74, by decide +kernel⟩
theorem kX9_296 : WV RX9 296 RX8 yX8_postOn cX8_postOn 3 (some .int) 1 := ⟨w_368, w_365, w_366, w_367, w_75, by decide +kernel⟩
theorem fX9_203 : Fd8 RX9 203 8 6 := ⟨RX8, TX8, 11, rfl, inX8, tyE8, nmX8, by decide, w_120, rfl⟩
theorem kX9_302 : WV RX9 302 RX8 yX8_add cX8_add 5 (some .int) 3 := ⟨w_380, w_377, w_378, w_379, w_75, by decide +kernel⟩
theorem kX9_299 : WV RX9 299 RX9 yX9_refuse cX9_refuse 3 (some .int) 2 := ⟨w_372, w_369, w_371, w_3, w_74, by decide +kernel⟩
theorem fX9_74 : Fd8 RX9 74 9 10 := ⟨RX9, TX9, 13, rfl, inX9, tyE9, nmX9, by decide, w_313, rfl⟩
theorem fX9_82 : Fd8 RX9 82 9 12 := ⟨RX9, TX9, 13, rfl, inX9, tyE9, nmX9, by decide, w_315, rfl⟩
theorem kX9_289 : WV RX9 289 RX5 yX5_tell cX5_tell 4 none 3 := ⟨w_376, w_373, w_374, w_375, w_83, by decide +kernel⟩
theorem kX9_94 : WV RX9 94 RX9 yX9_kept cX9_kept 2 (some .int) 1 := ⟨w_385, w_382, w_384, w_4, w_74, by decide +kernel⟩
theorem fX9_25 : Fd8 RX9 25 9 3 := ⟨RX9, TX9, 13, rfl, inX9, tyE9, nmX9, by decide, w_306, rfl⟩
theorem kX9_286 : WV RX9 286 RX4 yX4_keep cX4_keep 3 none 1 := ⟨w_389, w_386, w_387, w_388, w_76, by decide +kernel⟩
theorem kX9_98 : WV RX9 98 RX9 yX9_tearDown cX9_tearDown 2 (some .int) 1 := ⟨w_401, w_398, w_400, w_5, w_74, by decide +kernel⟩
theorem kX9_127 : WV RX9 127 RX8 yX8_isPost cX8_isPost 2 (some .boolean) 1 := ⟨w_405, w_402, w_403, w_404, w_75, by decide +kernel⟩
theorem kX9_305 : WV RX9 305 RX8 yX8_remove cX8_remove 3 none 1 := ⟨w_409, w_406, w_407, w_408, w_75, by decide +kernel⟩
theorem kX9_101 : WV RX9 101 RX9 yX9_tellReaches cX9_tellReaches 6 (some .int) 3 := ⟨w_417, w_414, w_416, w_6, w_74, by decide +kernel⟩
theorem fX9_308 : Fd8 RX9 308 8 1 := ⟨RX8, TX8, 11, rfl, inX8, tyE8, nmX8, by decide, w_108, rfl⟩
theorem fX9_312 : Fd8 RX9 312 8 2 := ⟨RX8, TX8, 11, rfl, inX8, tyE8, nmX8, by decide, w_110, rfl⟩
theorem kX9_104 : WV RX9 104 RX9 yX9_tellBlindAngle cX9_tellBlindAngle 4 (some .int) 3 := ⟨w_425, w_422, w_424, w_7, w_74, by decide +kernel⟩
theorem fX9_315 : Fd8 RX9 315 8 3 := ⟨RX8, TX8, 11, rfl, inX8, tyE8, nmX8, by decide, w_112, rfl⟩
theorem fX9_318 : Fd8 RX9 318 8 4 := ⟨RX8, TX8, 11, rfl, inX8, tyE8, nmX8, by decide, w_114, rfl⟩
theorem kX9_107 : WV RX9 107 RX9 yX9_manySeenNow cX9_manySeenNow 2 (some .int) 1 := ⟨w_429, w_426, w_428, w_8, w_74, by decide +kernel⟩
theorem fX9_32 : Fd8 RX9 32 9 4 := ⟨RX9, TX9, 13, rfl, inX9, tyE9, nmX9, by decide, w_307, rfl⟩
theorem fX9_134 : Fd8 RX9 134 8 7 := ⟨RX8, TX8, 11, rfl, inX8, tyE8, nmX8, by decide, w_122, rfl⟩
theorem kX9_137 : WV RX9 137 RX6 yX6_lookAt cX6_lookAt 4 none 2 := ⟨w_433, w_430, w_431, w_432, w_77, by decide +kernel⟩
theorem kX9_141 : WV RX9 141 RX6 yX6_manySeen cX6_manySeen 2 (some .int) 1 := ⟨w_452, w_449, w_450, w_451, w_77, by decide +kernel⟩
theorem kX9_110 : WV RX9 110 RX9 yX9_dropBlindAngle cX9_dropBlindAngle 2 (some .int) 1 := ⟨w_470, w_467, w_469, w_9, w_74, by decide +kernel⟩
theorem kX9_113 : WV RX9 113 RX9 yX9_letBeManned cX9_letBeManned 3 (some .int) 2 := ⟨w_478, w_475, w_477, w_10, w_74, by decide +kernel⟩
theorem fX9_321 : Fd8 RX9 321 8 5 := ⟨RX8, TX8, 11, rfl, inX8, tyE8, nmX8, by decide, w_117, rfl⟩
theorem kX9_117 : WV RX9 117 RX9 yX9_manyWatchedNow cX9_manyWatchedNow 1 (some .int) 0 := ⟨w_482, w_479, w_481, w_11, w_74, by decide +kernel⟩
theorem fX9_163 : Fd8 RX9 163 6 2 := ⟨RX6, TX6, 3, rfl, inX6, tyE6, nmX6, by decide, w_180, rfl⟩
theorem kX9_171 : WV RX9 171 RX6 yX6_seenBySet cX6_seenBySet 4 (some .int) 1 := ⟨w_486, w_483, w_484, w_485, w_77, by decide +kernel⟩
theorem kX9_166 : WS RX9 166 yJ6_bitCount_0f7a4 cJ6_bitCount_0f7a4 1 (some .int) 1 := ⟨w_459, w_490, w_458, w_86, by decide +kernel⟩
theorem kX9_121 : WV RX9 121 RX9 yX9_tellHour cX9_tellHour 3 (some .int) 1 := ⟨w_498, w_495, w_497, w_12, w_74, by decide +kernel⟩
theorem kX9_210 : WS RX9 210 yX9_isHour cX9_isHour 1 (some .boolean) 1 := ⟨w_501, w_499, w_500, w_74, by decide +kernel⟩
theorem kX9_124 : WV RX9 124 RX9 yX9_manFewest cX9_manFewest 1 (some .int) 0 := ⟨w_509, w_506, w_508, w_13, w_74, by decide +kernel⟩
theorem fX9_39 : Fd8 RX9 39 9 5 := ⟨RX9, TX9, 13, rfl, inX9, tyE9, nmX9, by decide, w_308, rfl⟩
theorem kX9_147 : WV RX9 147 RX0 yX0_trySets cX0_trySets 6 none 1 := ⟨w_513, w_510, w_511, w_512, w_78, by decide +kernel⟩
theorem fX9_193 : Fd8 RX9 193 0 2 := ⟨RX0, TX0, 5, rfl, inX0, tyE0, nmX0, by decide, w_197, rfl⟩
theorem kX9_326 : WV RX9 326 RX8 yX8_manJust cX8_manJust 3 none 1 := ⟨w_528, w_525, w_526, w_527, w_75, by decide +kernel⟩
theorem kX9_323 : WV RX9 323 RX9 yX9_manyUnseen cX9_manyUnseen 1 (some .int) 0 := ⟨w_524, w_521, w_523, w_15, w_74, by decide +kernel⟩
theorem fX9_151 : Fd8 RX9 151 0 4 := ⟨RX0, TX0, 5, rfl, inX0, tyE0, nmX0, by decide, w_201, rfl⟩
theorem kX9_144 : WV RX9 144 RX6 yX6_manySeenAlone cX6_manySeenAlone 2 (some .int) 1 := ⟨w_540, w_537, w_538, w_539, w_77, by decide +kernel⟩
theorem kX9_131 : WV RX9 131 RX8 yX8_numberOf cX8_numberOf 3 (some .int) 2 := ⟨w_536, w_533, w_534, w_535, w_75, by decide +kernel⟩
theorem kX9_157 : WV RX9 157 RX6 yX6_of cX6_of 2 (some .int) 1 := ⟨w_456, w_546, w_454, w_455, w_77, by decide +kernel⟩
theorem kX9_160 : WV RX9 160 RX6 yX6_seersOf cX6_seersOf 4 (some .int) 1 := ⟨w_554, w_551, w_552, w_553, w_77, by decide +kernel⟩
theorem fX9_46 : Fd8 RX9 46 9 6 := ⟨RX9, TX9, 13, rfl, inX9, tyE9, nmX9, by decide, w_309, rfl⟩
theorem kX9_174 : WV RX9 174 RX1 yX1_find cX1_find 4 none 1 := ⟨w_566, w_563, w_564, w_565, w_79, by decide +kernel⟩
theorem kX9_178 : WV RX9 178 RX1 yX1_isGap cX1_isGap 2 (some .boolean) 1 := ⟨w_582, w_579, w_580, w_581, w_79, by decide +kernel⟩
theorem kX9_181 : WV RX9 181 RX1 yX1_firstOf cX1_firstOf 2 (some .int) 1 := ⟨w_586, w_583, w_584, w_585, w_79, by decide +kernel⟩
theorem kX9_184 : WV RX9 184 RX1 yX1_lengthOf cX1_lengthOf 2 (some .int) 1 := ⟨w_591, w_588, w_589, w_590, w_79, by decide +kernel⟩
theorem kX9_187 : WS RX9 187 yX9_stretch cX9_stretch 4 (some .int) 2 := ⟨w_447, w_592, w_446, w_74, by decide +kernel⟩
theorem kX9_190 : WV RX9 190 RX6 yX6_bestAmong cX6_bestAmong 7 (some .int) 2 := ⟨w_596, w_593, w_594, w_595, w_77, by decide +kernel⟩
theorem kX9_196 : WV RX9 196 RX0 yX0_searchStones cX0_searchStones 3 (some .int) 1 := ⟨w_608, w_605, w_606, w_607, w_78, by decide +kernel⟩
theorem fX9_200 : Fd8 RX9 200 0 3 := ⟨RX0, TX0, 5, rfl, inX0, tyE0, nmX0, by decide, w_199, rfl⟩
theorem kX9_207 : WV RX9 207 RX9 yX9_closingMost cX9_closingMost 3 (some .int) 1 := ⟨w_639, w_636, w_638, w_17, w_74, by decide +kernel⟩
theorem kX9_213 : WS RX9 213 yX9_turned cX9_turned 2 (some .int) 2 := ⟨w_573, w_652, w_572, w_74, by decide +kernel⟩
theorem fX9_53 : Fd8 RX9 53 9 7 := ⟨RX9, TX9, 13, rfl, inX9, tyE9, nmX9, by decide, w_310, rfl⟩
theorem kX9_223 : WV RX9 223 RX3 yX3_at cX3_at 4 (some .int) 2 := ⟨w_668, w_665, w_666, w_667, w_80, by decide +kernel⟩
theorem kX9_216 : WV RX9 216 RX9 yX9_keyOf cX9_keyOf 3 (some .int) 2 := ⟨w_660, w_657, w_659, w_18, w_74, by decide +kernel⟩
theorem kX9_219 : WV RX9 219 RX3 yX3_giveKey cX3_giveKey 3 none 2 := ⟨w_664, w_661, w_662, w_663, w_80, by decide +kernel⟩
theorem fX9_67 : Fd8 RX9 67 9 9 := ⟨RX9, TX9, 13, rfl, inX9, tyE9, nmX9, by decide, w_312, rfl⟩
theorem kX9_226 : WV RX9 226 RX2 yX2_clear cX2_clear 1 none 0 := ⟨w_680, w_677, w_678, w_679, w_82, by decide +kernel⟩
theorem kX9_229 : WV RX9 229 RX2 yX2_putNumber cX2_putNumber 2 none 1 := ⟨w_684, w_681, w_682, w_683, w_82, by decide +kernel⟩
theorem kX9_232 : WV RX9 232 RX9 yX9_putMarked cX9_putMarked 3 none 2 := ⟨w_692, w_689, w_691, w_20, w_74, by decide +kernel⟩
theorem kX9_235 : WV RX9 235 RX2 yX2_put cX2_put 2 none 1 := ⟨w_688, w_693, w_686, w_687, w_82, by decide +kernel⟩
theorem fX9_238 : Fd8 RX9 238 2 1 := ⟨RX2, TX2, 2, rfl, inX2, tyE2, nmX2, by decide, w_281, rfl⟩
theorem kX9_241 : WS RX9 241 yX9_signFor cX9_signFor 1 (some .int) 1 := ⟨w_700, w_698, w_699, w_74, by decide +kernel⟩
theorem kX9_244 : WV RX9 244 RX2 yX2_codeAt cX2_codeAt 2 (some .int) 1 := ⟨w_708, w_705, w_706, w_707, w_82, by decide +kernel⟩
theorem fX9_60 : Fd8 RX9 60 9 8 := ⟨RX9, TX9, 13, rfl, inX9, tyE9, nmX9, by decide, w_311, rfl⟩
theorem kX9_247 : WV RX9 247 RX7 yX7_put cX7_put 2 (some .int) 1 := ⟨w_716, w_713, w_714, w_715, w_81, by decide +kernel⟩
theorem kX9_249 : WV RX9 249 RX7 yX7_findFault cX7_findFault 2 (some .int) 0 := ⟨w_724, w_721, w_722, w_723, w_81, by decide +kernel⟩
theorem kX9_253 : WV RX9 253 RX9 yX9_carryOutAll cX9_carryOutAll 4 (some .int) 0 := ⟨w_764, w_761, w_763, w_26, w_74, by decide +kernel⟩
theorem kX9_329 : WV RX9 329 RX7 yX7_rewind cX7_rewind 1 none 0 := ⟨w_728, w_765, w_726, w_727, w_81, by decide +kernel⟩
theorem kX9_332 : WV RX9 332 RX7 yX7_takeCommand cX7_takeCommand 1 (some .boolean) 0 := ⟨w_732, w_766, w_730, w_731, w_81, by decide +kernel⟩
theorem fp9_12 : ∀ C T N', vwCl[9]? = some (C, T, N') → (T 12).2.2.2 = false ∧ parseFieldDescriptor (T 12).2.2.1 = some .int := fun C T N h => by cases h; exact ⟨rfl, by decide +kernel⟩
theorem kX9_336 : WV RX9 336 RX9 yX9_carryOut cX9_carryOut 1 (some .int) 0 := ⟨w_770, w_767, w_769, w_27, w_74, by decide +kernel⟩
theorem fX9_342 : Fd8 RX9 342 7 3 := ⟨RX7, TX7, 7, rfl, inX7, tyE7, nmX7, by decide, w_251, rfl⟩
theorem fX9_345 : Fd8 RX9 345 7 4 := ⟨RX7, TX7, 7, rfl, inX7, tyE7, nmX7, by decide, w_253, rfl⟩
theorem fX9_348 : Fd8 RX9 348 7 5 := ⟨RX7, TX7, 7, rfl, inX7, tyE7, nmX7, by decide, w_255, rfl⟩
theorem fX9_351 : Fd8 RX9 351 7 6 := ⟨RX7, TX7, 7, rfl, inX7, tyE7, nmX7, by decide, w_257, rfl⟩
theorem kX9_339 : WV RX9 339 RX7 yX7_skip cX7_skip 2 (some .boolean) 1 := ⟨w_740, w_771, w_738, w_739, w_81, by decide +kernel⟩
theorem kX9_252 : WV RX9 252 RX7 yX7_clear cX7_clear 1 none 0 := ⟨w_760, w_757, w_758, w_759, w_81, by decide +kernel⟩
theorem kX9_256 : WV RX9 256 RX5 yX5_numberOf cX5_numberOf 2 (some .int) 1 := ⟨w_779, w_776, w_777, w_778, w_83, by decide +kernel⟩
theorem kX9_265 : WV RX9 265 RX9 yX9_sightAccount cX9_sightAccount 3 (some .int) 1 := ⟨w_791, w_788, w_790, w_28, w_74, by decide +kernel⟩
theorem kX9_354 : WV RX9 354 RX6 yX6_overlaps cX6_overlaps 4 (some .int) 0 := ⟨w_795, w_792, w_793, w_794, w_77, by decide +kernel⟩
theorem fX9_357 : Fd8 RX9 357 1 2 := ⟨RX1, TX1, 3, rfl, inX1, tyE1, nmX1, by decide, w_222, rfl⟩
theorem kX9_358 : WV RX9 358 RX1 yX1_longest cX1_longest 3 (some .int) 0 := ⟨w_799, w_796, w_797, w_798, w_79, by decide +kernel⟩
theorem kX9_262 : WV RX9 262 RX8 yX8_accountOf cX8_accountOf 2 (some .int) 1 := ⟨w_787, w_784, w_785, w_786, w_75, by decide +kernel⟩
theorem fX9_259 : Fd8 RX9 259 4 2 := ⟨RX4, TX4, 3, rfl, inX4, tyE4, nmX4, by decide, w_162, rfl⟩
theorem fX9_258 : Fd8 RX9 258 7 2 := ⟨RX7, TX7, 7, rfl, inX7, tyE7, nmX7, by decide, w_249, rfl⟩
theorem kX9_268 : WV RX9 268 RX1 yX1_lengthOfAll cX1_lengthOfAll 3 (some .int) 0 := ⟨w_809, w_806, w_807, w_808, w_79, by decide +kernel⟩
theorem kX9_276 : WS RX9 276 yX9_bitsOf cX9_bitsOf 4 (some .int) 1 := ⟨w_818, w_816, w_817, w_74, by decide +kernel⟩
theorem kX9_271 : WS RX9 271 yX9_isIn cX9_isIn 2 (some .boolean) 2 := ⟨w_489, w_814, w_488, w_74, by decide +kernel⟩
theorem kX9_280 : WV RX9 280 RX4 yX4_takeBack cX4_takeBack 3 none 1 := ⟨w_827, w_824, w_825, w_826, w_76, by decide +kernel⟩
theorem fX9_19 : Fd8 RX9 19 9 2 := ⟨RX9, TX9, 13, rfl, inX9, tyE9, nmX9, by decide, w_305, rfl⟩
theorem fX9_78 : Fd8 RX9 78 9 11 := ⟨RX9, TX9, 13, rfl, inX9, tyE9, nmX9, by decide, w_314, rfl⟩
theorem fp9_11 : ∀ C T N', vwCl[9]? = some (C, T, N') → (T 11).2.2.2 = false ∧ parseFieldDescriptor (T 11).2.2.1 = some .boolean := fun C T N h => by cases h; exact ⟨rfl, by decide +kernel⟩
theorem kX9_283 : WV RX9 283 RX4 yX4_forget cX4_forget 1 none 0 := ⟨w_839, w_836, w_837, w_838, w_76, by decide +kernel⟩
theorem fX10_9 : Fd8 RX10 9 10 0 := ⟨RX10, TX10, 16, rfl, inX10, tyE10, nmX10, by decide, w_846, rfl⟩
theorem fX10_13 : Fd8 RX10 13 10 1 := ⟨RX10, TX10, 16, rfl, inX10, tyE10, nmX10, by decide, w_847, rfl⟩
theorem kX10_35 : WS RX10 35 yX10_copies cX10_copies 5 none 4 := ⟨w_905, w_903, w_904, w_84, by decide +kernel⟩
theorem fX10_39 : Fd8 RX10 39 10 4 := ⟨RX10, TX10, 16, rfl, inX10, tyE10, nmX10, by decide, w_850, rfl⟩
theorem fX10_19 : Fd8 RX10 19 10 3 := ⟨RX10, TX10, 16, rfl, inX10, tyE10, nmX10, by decide, w_849, rfl⟩
theorem fp10_4 : ∀ C T N', vwCl[10]? = some (C, T, N') → (T 4).2.2.2 = false ∧ parseFieldDescriptor (T 4).2.2.1 = some .int := fun C T N h => by cases h; exact ⟨rfl, by decide +kernel⟩
theorem kX10_42 : WV RX10 42 RX10 yX10_changed cX10_changed 2 none 0 := ⟨w_942, w_939, w_941, w_36, w_84, by decide +kernel⟩
theorem fX10_45 : Fd8 RX10 45 10 5 := ⟨RX10, TX10, 16, rfl, inX10, tyE10, nmX10, by decide, w_851, rfl⟩
theorem fp10_5 : ∀ C T N', vwCl[10]? = some (C, T, N') → (T 5).2.2.2 = false ∧ parseFieldDescriptor (T 5).2.2.1 = some .int := fun C T N h => by cases h; exact ⟨rfl, by decide +kernel⟩
theorem fX10_48 : Fd8 RX10 48 10 6 := ⟨RX10, TX10, 16, rfl, inX10, tyE10, nmX10, by decide, w_852, rfl⟩
theorem fp10_6 : ∀ C T N', vwCl[10]? = some (C, T, N') → (T 6).2.2.2 = false ∧ parseFieldDescriptor (T 6).2.2.1 = some .int := fun C T N h => by cases h; exact ⟨rfl, by decide +kernel⟩
theorem fX10_22 : Fd8 RX10 22 10 7 := ⟨RX10, TX10, 16, rfl, inX10, tyE10, nmX10, by decide, w_853, rfl⟩
theorem fp10_7 : ∀ C T N', vwCl[10]? = some (C, T, N') → (T 7).2.2.2 = false ∧ parseFieldDescriptor (T 7).2.2.1 = some .int := fun C T N h => by cases h; exact ⟨rfl, by decide +kernel⟩
theorem kX10_51 : WS RX10 51 yX10_isIn cX10_isIn 3 (some .boolean) 3 := ⟨w_915, w_913, w_914, w_84, by decide +kernel⟩
theorem kX10_55 : WV RX10 55 RX10 yX10_of cX10_of 3 (some .int) 2 := ⟨w_926, w_923, w_925, w_32, w_84, by decide +kernel⟩
theorem kX10_59 : WS RX10 59 yX10_less cX10_less 1 (some .int) 1 := ⟨w_981, w_979, w_980, w_84, by decide +kernel⟩
theorem kX10_63 : WS RX10 63 yX10_greater cX10_greater 2 (some .int) 2 := ⟨w_984, w_982, w_983, w_84, by decide +kernel⟩
theorem kX10_66 : WV RX10 66 RX10 yX10_sightIn cX10_sightIn 7 (some .int) 2 := ⟨w_978, w_975, w_977, w_42, w_84, by decide +kernel⟩
theorem kX10_69 : WV RX10 69 RX10 yX10_isManned cX10_isManned 2 (some .boolean) 1 := ⟨w_1011, w_1008, w_1010, w_46, w_84, by decide +kernel⟩
theorem kX10_73 : WS RX10 73 yX10_has cX10_has 2 (some .boolean) 2 := ⟨w_1022, w_1020, w_1021, w_84, by decide +kernel⟩
theorem kX10_77 : WV RX10 77 RX10 yX10_seenIn cX10_seenIn 5 (some .int) 2 := ⟨w_1019, w_1016, w_1018, w_48, w_84, by decide +kernel⟩
theorem kX10_80 : WS RX10 80 yX10_isStone cX10_isStone 1 (some .boolean) 1 := ⟨w_912, w_910, w_911, w_84, by decide +kernel⟩
theorem kX10_83 : WS RX10 83 yX10_isReach cX10_isReach 1 (some .boolean) 1 := ⟨w_918, w_916, w_917, w_84, by decide +kernel⟩
theorem kX10_86 : WV RX10 86 RX10 yX10_postOn cX10_postOn 3 (some .int) 1 := ⟨w_922, w_919, w_921, w_31, w_84, by decide +kernel⟩
theorem kX10_89 : WV RX10 89 RX10 yX10_isRefused cX10_isRefused 4 (some .boolean) 3 := ⟨w_930, w_927, w_929, w_33, w_84, by decide +kernel⟩
theorem kX10_93 : WV RX10 93 RX10 yX10_sets cX10_sets 4 none 3 := ⟨w_934, w_931, w_933, w_34, w_84, by decide +kernel⟩
theorem kX10_97 : WV RX10 97 RX10 yX10_keeps cX10_keeps 1 none 0 := ⟨w_902, w_899, w_901, w_29, w_84, by decide +kernel⟩
theorem kX10_100 : WV RX10 100 RX10 yX10_builds cX10_builds 6 (some .int) 3 := ⟨w_909, w_906, w_908, w_30, w_84, by decide +kernel⟩
theorem kX10_104 : WV RX10 104 RX10 yX10_ends cX10_ends 2 (some .int) 1 := ⟨w_938, w_935, w_937, w_35, w_84, by decide +kernel⟩
theorem kX10_107 : WV RX10 107 RX10 yX10_isPost cX10_isPost 2 (some .boolean) 1 := ⟨w_954, w_951, w_953, w_38, w_84, by decide +kernel⟩
theorem kX10_110 : WV RX10 110 RX10 yX10_tears cX10_tears 3 (some .int) 1 := ⟨w_950, w_947, w_949, w_37, w_84, by decide +kernel⟩
theorem kX10_113 : WV RX10 113 RX10 yX10_reaches cX10_reaches 5 (some .int) 3 := ⟨w_962, w_959, w_961, w_39, w_84, by decide +kernel⟩
theorem kX10_116 : WV RX10 116 RX10 yX10_sight cX10_sight 2 (some .int) 1 := ⟨w_974, w_971, w_973, w_41, w_84, by decide +kernel⟩
theorem kX10_119 : WS RX10 119 yX10_bits cX10_bits 3 (some .int) 1 := ⟨w_987, w_985, w_986, w_84, by decide +kernel⟩
theorem kX10_122 : WV RX10 122 RX10 yX10_blinds cX10_blinds 4 (some .int) 3 := ⟨w_970, w_967, w_969, w_40, w_84, by decide +kernel⟩
theorem kX10_125 : WV RX10 125 RX10 yX10_lets cX10_lets 2 (some .int) 1 := ⟨w_995, w_992, w_994, w_43, w_84, by decide +kernel⟩
theorem kX10_128 : WV RX10 128 RX10 yX10_mannedSet cX10_mannedSet 3 (some .int) 0 := ⟨w_1007, w_1004, w_1006, w_45, w_84, by decide +kernel⟩
theorem kX10_132 : WV RX10 132 RX10 yX10_seen cX10_seen 2 (some .int) 1 := ⟨w_1015, w_1012, w_1014, w_47, w_84, by decide +kernel⟩
theorem kX10_135 : WV RX10 135 RX10 yX10_mans cX10_mans 3 (some .int) 2 := ⟨w_1003, w_1000, w_1002, w_44, w_84, by decide +kernel⟩
theorem kX10_138 : WS RX10 138 yX10_isHour cX10_isHour 1 (some .boolean) 1 := ⟨w_1033, w_1031, w_1032, w_84, by decide +kernel⟩
theorem kX10_141 : WV RX10 141 RX10 yX10_tellsHour cX10_tellsHour 3 (some .int) 1 := ⟨w_1030, w_1027, w_1029, w_49, w_84, by decide +kernel⟩
theorem kX10_144 : WV RX10 144 RX10 yX10_all cX10_all 1 (some .int) 0 := ⟨w_1049, w_1046, w_1048, w_52, w_84, by decide +kernel⟩
theorem kX10_148 : WV RX10 148 RX10 yX10_fewestIn cX10_fewestIn 5 (some .int) 1 := ⟨w_1045, w_1042, w_1044, w_51, w_84, by decide +kernel⟩
theorem kX10_151 : WV RX10 151 RX10 yX10_watching cX10_watching 3 (some .int) 0 := ⟨w_1041, w_1038, w_1040, w_50, w_84, by decide +kernel⟩
theorem kX10_154 : WV RX10 154 RX10 yX10_isFewest cX10_isFewest 3 (some .boolean) 2 := ⟨w_1066, w_1063, w_1065, w_53, w_84, by decide +kernel⟩
theorem kX10_157 : WV RX10 157 RX10 yX10_nextTo cX10_nextTo 7 (some .int) 1 := ⟨w_1082, w_1079, w_1081, w_54, w_84, by decide +kernel⟩
theorem kX10_160 : WV RX10 160 RX10 yX10_alone cX10_alone 2 (some .int) 1 := ⟨w_1102, w_1099, w_1101, w_55, w_84, by decide +kernel⟩
theorem kX10_163 : WV RX10 163 RX10 yX10_isNeeded cX10_isNeeded 5 (some .boolean) 1 := ⟨w_1106, w_1103, w_1105, w_56, w_84, by decide +kernel⟩
theorem kX10_166 : WV RX10 166 RX10 yX10_watchers cX10_watchers 4 (some .int) 1 := ⟨w_1118, w_1115, w_1117, w_57, w_84, by decide +kernel⟩
theorem kX10_169 : WS RX10 169 yX10_beginsGap cX10_beginsGap 2 (some .boolean) 2 := ⟨w_1133, w_1131, w_1132, w_84, by decide +kernel⟩
theorem kX10_172 : WV RX10 172 RX10 yX10_gapLength cX10_gapLength 4 (some .int) 1 := ⟨w_1137, w_1134, w_1136, w_59, w_84, by decide +kernel⟩
theorem kX10_175 : WV RX10 175 RX10 yX10_gapAt cX10_gapAt 5 (some .int) 1 := ⟨w_1130, w_1127, w_1129, w_58, w_84, by decide +kernel⟩
theorem kX10_178 : WV RX10 178 RX10 yX10_closest cX10_closest 7 (some .int) 1 := ⟨w_1141, w_1138, w_1140, w_60, w_84, by decide +kernel⟩
theorem kX10_181 : WV RX10 181 RX10 yX10_gapMany cX10_gapMany 4 (some .int) 0 := ⟨w_1220, w_1217, w_1219, w_71, w_84, by decide +kernel⟩
theorem kX10_184 : WV RX10 184 RX10 yX10_isAhead cX10_isAhead 5 (some .boolean) 3 := ⟨w_1149, w_1146, w_1148, w_61, w_84, by decide +kernel⟩
theorem fX10_26 : Fd8 RX10 26 10 9 := ⟨RX10, TX10, 16, rfl, inX10, tyE10, nmX10, by decide, w_855, rfl⟩
theorem fX10_187 : Fd8 RX10 187 10 10 := ⟨RX10, TX10, 16, rfl, inX10, tyE10, nmX10, by decide, w_856, rfl⟩
theorem fp10_10 : ∀ C T N', vwCl[10]? = some (C, T, N') → (T 10).2.2.2 = false ∧ parseFieldDescriptor (T 10).2.2.1 = some .int := fun C T N h => by cases h; exact ⟨rfl, by decide +kernel⟩
theorem kX10_194 : WV RX10 194 RX10 yX10_puts cX10_puts 2 none 1 := ⟨w_1161, w_1158, w_1160, w_63, w_84, by decide +kernel⟩
theorem kX10_190 : WV RX10 190 RX10 yX10_number cX10_number 2 none 1 := ⟨w_1157, w_1154, w_1156, w_62, w_84, by decide +kernel⟩
theorem fX10_197 : Fd8 RX10 197 10 13 := ⟨RX10, TX10, 16, rfl, inX10, tyE10, nmX10, by decide, w_859, rfl⟩
theorem fX10_29 : Fd8 RX10 29 10 11 := ⟨RX10, TX10, 16, rfl, inX10, tyE10, nmX10, by decide, w_857, rfl⟩
theorem fp10_13 : ∀ C T N', vwCl[10]? = some (C, T, N') → (T 13).2.2.2 = false ∧ parseFieldDescriptor (T 13).2.2.1 = some .int := fun C T N h => by cases h; exact ⟨rfl, by decide +kernel⟩
theorem fX10_200 : Fd8 RX10 200 10 14 := ⟨RX10, TX10, 16, rfl, inX10, tyE10, nmX10, by decide, w_860, rfl⟩
theorem kX10_203 : WV RX10 203 RX10 yX10_signHere cX10_signHere 1 (some .int) 0 := ⟨w_1189, w_1186, w_1188, w_66, w_84, by decide +kernel⟩
theorem fp10_14 : ∀ C T N', vwCl[10]? = some (C, T, N') → (T 14).2.2.2 = false ∧ parseFieldDescriptor (T 14).2.2.1 = some .int := fun C T N h => by cases h; exact ⟨rfl, by decide +kernel⟩
theorem fX10_32 : Fd8 RX10 32 10 12 := ⟨RX10, TX10, 16, rfl, inX10, tyE10, nmX10, by decide, w_858, rfl⟩
theorem fX10_206 : Fd8 RX10 206 10 15 := ⟨RX10, TX10, 16, rfl, inX10, tyE10, nmX10, by decide, w_861, rfl⟩
theorem kX10_209 : WS RX10 209 yX10_isKind cX10_isKind 1 (some .boolean) 1 := ⟨w_1192, w_1190, w_1191, w_84, by decide +kernel⟩
theorem fp10_15 : ∀ C T N', vwCl[10]? = some (C, T, N') → (T 15).2.2.2 = false ∧ parseFieldDescriptor (T 15).2.2.1 = some .int := fun C T N h => by cases h; exact ⟨rfl, by decide +kernel⟩
theorem kX10_212 : WV RX10 212 RX10 yX10_isNumber cX10_isNumber 5 (some .boolean) 2 := ⟨w_1196, w_1193, w_1195, w_67, w_84, by decide +kernel⟩
theorem kX10_215 : WV RX10 215 RX10 yX10_isHere cX10_isHere 3 (some .boolean) 1 := ⟨w_1200, w_1197, w_1199, w_68, w_84, by decide +kernel⟩
theorem kX10_218 : WV RX10 218 RX10 yX10_readsCommand cX10_readsCommand 3 (some .boolean) 0 := ⟨w_1185, w_1182, w_1184, w_65, w_84, by decide +kernel⟩
theorem kX10_222 : WV RX10 222 RX10 yX10_isText cX10_isText 2 (some .boolean) 0 := ⟨w_1181, w_1178, w_1180, w_64, w_84, by decide +kernel⟩
theorem kX10_225 : WV RX10 225 RX10 yX10_does cX10_does 5 (some .int) 1 := ⟨w_1204, w_1201, w_1203, w_69, w_84, by decide +kernel⟩
theorem kX10_228 : WV RX10 228 RX10 yX10_overlaps cX10_overlaps 3 (some .int) 0 := ⟨w_1216, w_1213, w_1215, w_70, w_84, by decide +kernel⟩
theorem kX10_231 : WV RX10 231 RX10 yX10_longestGap cX10_longestGap 3 (some .int) 0 := ⟨w_1224, w_1221, w_1223, w_72, w_84, by decide +kernel⟩
theorem kX10_235 : WS RX10 235 yJxf58ca_floatToIntBits_5c35a cJxf58ca_floatToIntBits_5c35a 1 (some .int) 1 := ⟨w_1236, w_1234, w_1235, w_87, by decide +kernel⟩
theorem kJxf58ca_59 : WS RJxf58ca 59 yJxf58ca_isNaN_12338 cJxf58ca_isNaN_12338 1 (some .boolean) 1 := ⟨w_1239, w_1237, w_1238, w_87, by decide +kernel⟩
theorem fX10_16 : Fd8 RX10 16 10 2 := ⟨RX10, TX10, 16, rfl, inX10, tyE10, nmX10, by decide, w_848, rfl⟩
theorem fX10_241 : Fd8 RX10 241 10 8 := ⟨RX10, TX10, 16, rfl, inX10, tyE10, nmX10, by decide, w_854, rfl⟩
theorem fp10_8 : ∀ C T N', vwCl[10]? = some (C, T, N') → (T 8).2.2.2 = false ∧ parseFieldDescriptor (T 8).2.2.1 = some .boolean := fun C T N h => by cases h; exact ⟨rfl, by decide +kernel⟩
def Lfii (F : (SS → UInt32 → Int32 → Int32 → Prop) → SS → UInt32 → Int32 → Int32 → Prop) : Nat → SS → UInt32 → Int32 → Int32 → Prop
  | 0 => fun _ _ _ _ => False
  | k + 1 => F (Lfii F k)
theorem Lfii.snd {F : (SS → UInt32 → Int32 → Int32 → Prop) → SS → UInt32 → Int32 → Int32 → Prop} {P : SS → UInt32 → Int32 → Int32 → Prop} (h : ∀ rc : SS → UInt32 → Int32 → Int32 → Prop, (∀ (σ : SS) (v0 : UInt32) (v1 : Int32) (v2 : Int32), rc σ v0 v1 v2 → P σ v0 v1 v2) → ∀ (σ : SS) (v0 : UInt32) (v1 : Int32) (v2 : Int32), F rc σ v0 v1 v2 → P σ v0 v1 v2) : ∀ (k : Nat) (σ : SS) (v0 : UInt32) (v1 : Int32) (v2 : Int32), Lfii F k σ v0 v1 v2 → P σ v0 v1 v2
  | 0 => fun _ _ _ _ h => h.elim
  | k + 1 => h _ (Lfii.snd h k)
theorem Lfii.ex {F : (SS → UInt32 → Int32 → Int32 → Prop) → SS → UInt32 → Int32 → Int32 → Prop} (Inv : SS → UInt32 → Int32 → Int32 → Prop) (μ : SS → UInt32 → Int32 → Int32 → Nat) (h : ∀ rc : SS → UInt32 → Int32 → Int32 → Prop, ∀ (σ : SS) (v0 : UInt32) (v1 : Int32) (v2 : Int32), Inv σ v0 v1 v2 → (∀ (τ : SS) (w0 : UInt32) (w1 : Int32) (w2 : Int32), Inv τ w0 w1 w2 → μ τ w0 w1 w2 < μ σ v0 v1 v2 → rc τ w0 w1 w2) → F rc σ v0 v1 v2) {σ : SS} {v0 : UInt32} {v1 : Int32} {v2 : Int32} (hi : Inv σ v0 v1 v2) : ∃ k, Lfii F k σ v0 v1 v2 := by
  have key : ∀ (N : Nat) (σ : SS) (v0 : UInt32) (v1 : Int32) (v2 : Int32), Inv σ v0 v1 v2 → μ σ v0 v1 v2 < N → Lfii F N σ v0 v1 v2 := by
    intro N
    induction N with
    | zero => intro σ v0 v1 v2 _ h2; omega
    | succ N ih => intro σ v0 v1 v2 h1 h2; exact h _ σ v0 v1 v2 h1 (fun τ w0 w1 w2 g1 g2 => ih τ w0 w1 w2 g1 (by omega))
  exact ⟨_, key _ σ v0 v1 v2 hi (Nat.lt_succ_self _)⟩
def Li (F : (SS → Int32 → Prop) → SS → Int32 → Prop) : Nat → SS → Int32 → Prop
  | 0 => fun _ _ => False
  | k + 1 => F (Li F k)
theorem Li.snd {F : (SS → Int32 → Prop) → SS → Int32 → Prop} {P : SS → Int32 → Prop} (h : ∀ rc : SS → Int32 → Prop, (∀ (σ : SS) (v0 : Int32), rc σ v0 → P σ v0) → ∀ (σ : SS) (v0 : Int32), F rc σ v0 → P σ v0) : ∀ (k : Nat) (σ : SS) (v0 : Int32), Li F k σ v0 → P σ v0
  | 0 => fun _ _ h => h.elim
  | k + 1 => h _ (Li.snd h k)
theorem Li.ex {F : (SS → Int32 → Prop) → SS → Int32 → Prop} (Inv : SS → Int32 → Prop) (μ : SS → Int32 → Nat) (h : ∀ rc : SS → Int32 → Prop, ∀ (σ : SS) (v0 : Int32), Inv σ v0 → (∀ (τ : SS) (w0 : Int32), Inv τ w0 → μ τ w0 < μ σ v0 → rc τ w0) → F rc σ v0) {σ : SS} {v0 : Int32} (hi : Inv σ v0) : ∃ k, Li F k σ v0 := by
  have key : ∀ (N : Nat) (σ : SS) (v0 : Int32), Inv σ v0 → μ σ v0 < N → Li F N σ v0 := by
    intro N
    induction N with
    | zero => intro σ v0 _ h2; omega
    | succ N ih => intro σ v0 h1 h2; exact h _ σ v0 h1 (fun τ w0 g1 g2 => ih τ w0 g1 (by omega))
  exact ⟨_, key _ σ v0 hi (Nat.lt_succ_self _)⟩
def Lii (F : (SS → Int32 → Int32 → Prop) → SS → Int32 → Int32 → Prop) : Nat → SS → Int32 → Int32 → Prop
  | 0 => fun _ _ _ => False
  | k + 1 => F (Lii F k)
theorem Lii.snd {F : (SS → Int32 → Int32 → Prop) → SS → Int32 → Int32 → Prop} {P : SS → Int32 → Int32 → Prop} (h : ∀ rc : SS → Int32 → Int32 → Prop, (∀ (σ : SS) (v0 : Int32) (v1 : Int32), rc σ v0 v1 → P σ v0 v1) → ∀ (σ : SS) (v0 : Int32) (v1 : Int32), F rc σ v0 v1 → P σ v0 v1) : ∀ (k : Nat) (σ : SS) (v0 : Int32) (v1 : Int32), Lii F k σ v0 v1 → P σ v0 v1
  | 0 => fun _ _ _ h => h.elim
  | k + 1 => h _ (Lii.snd h k)
theorem Lii.ex {F : (SS → Int32 → Int32 → Prop) → SS → Int32 → Int32 → Prop} (Inv : SS → Int32 → Int32 → Prop) (μ : SS → Int32 → Int32 → Nat) (h : ∀ rc : SS → Int32 → Int32 → Prop, ∀ (σ : SS) (v0 : Int32) (v1 : Int32), Inv σ v0 v1 → (∀ (τ : SS) (w0 : Int32) (w1 : Int32), Inv τ w0 w1 → μ τ w0 w1 < μ σ v0 v1 → rc τ w0 w1) → F rc σ v0 v1) {σ : SS} {v0 : Int32} {v1 : Int32} (hi : Inv σ v0 v1) : ∃ k, Lii F k σ v0 v1 := by
  have key : ∀ (N : Nat) (σ : SS) (v0 : Int32) (v1 : Int32), Inv σ v0 v1 → μ σ v0 v1 < N → Lii F N σ v0 v1 := by
    intro N
    induction N with
    | zero => intro σ v0 v1 _ h2; omega
    | succ N ih => intro σ v0 v1 h1 h2; exact h _ σ v0 v1 h1 (fun τ w0 w1 g1 g2 => ih τ w0 w1 g1 (by omega))
  exact ⟨_, key _ σ v0 v1 hi (Nat.lt_succ_self _)⟩
def Liii (F : (SS → Int32 → Int32 → Int32 → Prop) → SS → Int32 → Int32 → Int32 → Prop) : Nat → SS → Int32 → Int32 → Int32 → Prop
  | 0 => fun _ _ _ _ => False
  | k + 1 => F (Liii F k)
theorem Liii.snd {F : (SS → Int32 → Int32 → Int32 → Prop) → SS → Int32 → Int32 → Int32 → Prop} {P : SS → Int32 → Int32 → Int32 → Prop} (h : ∀ rc : SS → Int32 → Int32 → Int32 → Prop, (∀ (σ : SS) (v0 : Int32) (v1 : Int32) (v2 : Int32), rc σ v0 v1 v2 → P σ v0 v1 v2) → ∀ (σ : SS) (v0 : Int32) (v1 : Int32) (v2 : Int32), F rc σ v0 v1 v2 → P σ v0 v1 v2) : ∀ (k : Nat) (σ : SS) (v0 : Int32) (v1 : Int32) (v2 : Int32), Liii F k σ v0 v1 v2 → P σ v0 v1 v2
  | 0 => fun _ _ _ _ h => h.elim
  | k + 1 => h _ (Liii.snd h k)
theorem Liii.ex {F : (SS → Int32 → Int32 → Int32 → Prop) → SS → Int32 → Int32 → Int32 → Prop} (Inv : SS → Int32 → Int32 → Int32 → Prop) (μ : SS → Int32 → Int32 → Int32 → Nat) (h : ∀ rc : SS → Int32 → Int32 → Int32 → Prop, ∀ (σ : SS) (v0 : Int32) (v1 : Int32) (v2 : Int32), Inv σ v0 v1 v2 → (∀ (τ : SS) (w0 : Int32) (w1 : Int32) (w2 : Int32), Inv τ w0 w1 w2 → μ τ w0 w1 w2 < μ σ v0 v1 v2 → rc τ w0 w1 w2) → F rc σ v0 v1 v2) {σ : SS} {v0 : Int32} {v1 : Int32} {v2 : Int32} (hi : Inv σ v0 v1 v2) : ∃ k, Liii F k σ v0 v1 v2 := by
  have key : ∀ (N : Nat) (σ : SS) (v0 : Int32) (v1 : Int32) (v2 : Int32), Inv σ v0 v1 v2 → μ σ v0 v1 v2 < N → Liii F N σ v0 v1 v2 := by
    intro N
    induction N with
    | zero => intro σ v0 v1 v2 _ h2; omega
    | succ N ih => intro σ v0 v1 v2 h1 h2; exact h _ σ v0 v1 v2 h1 (fun τ w0 w1 w2 g1 g2 => ih τ w0 w1 w2 g1 (by omega))
  exact ⟨_, key _ σ v0 v1 v2 hi (Nat.lt_succ_self _)⟩
