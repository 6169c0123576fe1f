/-! the JDK's methods that a text goes through: words -/
abbrev bl (d n : Nat) : va_E := .inr (11, [.ref d, .int 0, .int 0, .int (nI n)])
abbrev ba (K : C4) (N : Nat) (f : Nat → Int32) : va_E := .inl (K.2.1.2.2, (N, .inl f))
theorem set_ne {E : va_W} {i j : Nat} {x : Nat × va_E} {q : Nat × va_E} (h : i ≠ j) (hi : E[i]? = some q) : (E.set j x)[i]? = some q := by rw [List.getElem?_set_ne (fun e => h e.symm)]; exact hi
theorem set_eq {E : va_W} {i : Nat} {x : Nat × va_E} {q : Nat × va_E} (hi : E[i]? = some q) : (E.set i x)[i]? = some x := List.getElem?_set_self (List.getElem?_eq_some_iff.mp hi).1
theorem app_l {E F : va_W} {i : Nat} {q : Nat × va_E} (hi : E[i]? = some q) : (E ++ F)[i]? = some q := by rw [List.getElem?_append_left (List.getElem?_eq_some_iff.mp hi).1]; exact hi
theorem app_last {E : va_W} {q : Nat × va_E} : (E ++ [q])[E.length]? = some q := by simp
theorem set_last {E : va_W} {q x : Nat × va_E} : (E ++ [q]).set E.length x = E ++ [x] := by simp
theorem set_app0 {E F : va_W} {i : Nat} {x q : Nat × va_E} (hi : E[i]? = some q) : (E ++ F).set i x = E.set i x ++ F := List.set_append_left _ _ (List.getElem?_eq_some_iff.mp hi).1
theorem set_app {E F : va_W} {i : Nat} {x y q : Nat × va_E} (hi : E[i]? = some q) : (E.set i y ++ F).set i x = E.set i x ++ F := by rw [List.set_append_left _ _ (by rw [List.length_set]; exact (List.getElem?_eq_some_iff.mp hi).1), List.set_set]
theorem nfw : nativeFrameWords "java/lang/System" "arraycopy" 5 + 11 ≤ 60 := by decide +kernel
theorem i_le16 {k : Nat} (h : k ≤ 16) : nI k - 16 ≤ 0 := by
  have key : ∀ k, k ≤ 16 → nI k - 16 ≤ 0 := by decide +kernel
  exact key k h
theorem i_n10 {k : Nat} (h : 10 ≤ k) (h2 : k < 100) : -nI k ≤ -10 := by
  have key : ∀ k, k < 100 → 10 ≤ k → -nI k ≤ -10 := by decide +kernel
  exact key k h2 h
theorem i_n10f {k : Nat} (h : k < 10) : ¬ -nI k ≤ -10 := by
  have key : ∀ k, k < 10 → ¬ -nI k ≤ -10 := by decide +kernel
  exact key k h
theorem i_n100 {k : Nat} (h : k < 100) : ¬ -nI k ≤ -100 := by
  have key : ∀ k, k < 100 → ¬ -nI k ≤ -100 := by decide +kernel
  exact key k h
theorem i_n100g {k : Nat} (h : k < 100) : (-100 : Int32) < -nI k := by
  have key : ∀ k, k < 100 → (-100 : Int32) < -nI k := by decide +kernel
  exact key k h
theorem i_n9 {k : Nat} (h : 10 ≤ k) (h2 : k < 100) : ¬ (-9 : Int32) ≤ -nI k := by
  have key : ∀ k, k < 100 → 10 ≤ k → ¬ (-9 : Int32) ≤ -nI k := by decide +kernel
  exact key k h2 h
theorem i_n9f {k : Nat} (h : k < 10) : (-9 : Int32) ≤ -nI k := by
  have key : ∀ k, k < 10 → (-9 : Int32) ≤ -nI k := by decide +kernel
  exact key k h
theorem i_dec {x : Nat} (h : 1 ≤ x) : nI x + Int32.ofInt (-1) = nI (x - 1) := by
  obtain ⟨y, rfl⟩ : ∃ y, x = y + 1 := ⟨x - 1, by omega⟩
  rw [Nat.add_sub_cancel]
  exact pk_m1 y
theorem i_negneg (x : Int32) : -(-x) = x := by simp
theorem nar_b {c : Nat} (h : c < 128) : vp_nar .byte (nI c) = nI c := by
  have key : ∀ c, c < 128 → (nI c).toInt8.toInt32 = nI c := by decide +kernel
  rw [vp_nar_byte]; exact key c h
theorem i_and255 {c : Nat} (h : c < 128) : nI c &&& 255 = nI c := by
  have key : ∀ c, c < 128 → nI c &&& 255 = nI c := by decide +kernel
  exact key c h
theorem i_c2 {c : Nat} (h : c < 128) : ((nI c).toUInt32 % 65536).toInt32 = nI c := by
  have key : ∀ c, c < 128 → ((nI c).toUInt32 % 65536).toInt32 = nI c := by decide +kernel
  exact key c h
theorem i_min16 {n : Nat} (h : n ≤ 16) : (if nI n < 16 then nI n else 16) = nI n := by
  have key : ∀ n, n ≤ 16 → (if nI n < 16 then nI n else 16) = nI n := by decide +kernel
  exact key n h
theorem i_ne16 {n : Nat} (h : n < 16) : ¬ nI n = 16 := by
  have key : ∀ n, n < 16 → ¬ nI n = 16 := by decide +kernel
  exact key n h
theorem dfJ0 : ∀ j, j < 4 → defaultValue (tyJ0 j) = vp_V [.null, .int 0, .int 0, .int 0] j := fun j hj => by
  rcases (show j = 0 ∨ j = 1 ∨ j = 2 ∨ j = 3 by omega) with rfl | rfl | rfl | rfl <;> rfl
theorem dfJ4 : ∀ j, j < 4 → defaultValue (tyJ4 j) = vp_V [.null, .int 0, .int 0, .int 0] j := fun j hj => by
  rcases (show j = 0 ∨ j = 1 ∨ j = 2 ∨ j = 3 by omega) with rfl | rfl | rfl | rfl <;> rfl
theorem inJ0t : ∀ w ∈ u_ws RJ0 TJ0 4, w ∈ TB := by
  have e : u_ws RJ0 TJ0 4 = [858, 860, 862, 864].filterMap (fun i : Nat => lw_tbl[i]?) := by decide +kernel
  have g : (u_ws RJ0 TJ0 4).all goodWord = true := by decide +kernel
  intro w hw
  have hg := List.all_eq_true.mp g w hw
  rw [e] at hw
  obtain ⟨i, -, hi⟩ := List.mem_filterMap.mp hw
  exact tb_m i hi hg
theorem inJ4t : ∀ w ∈ u_ws RJ4 TJ4 4, w ∈ TB := by
  have e : u_ws RJ4 TJ4 4 = [651, 653, 655, 657].filterMap (fun i : Nat => lw_tbl[i]?) := by decide +kernel
  have g : (u_ws RJ4 TJ4 4).all goodWord = true := by decide +kernel
  intro w hw
  have hg := List.all_eq_true.mp g w hw
  rw [e] at hw
  obtain ⟨i, -, hi⟩ := List.mem_filterMap.mp hw
  exact tb_m i hi hg
def ut0 : List (Nat × Cond) := [(743, Cond.fieldLink RJ0 38 "java/lang/String" "COMPACT_STRINGS" "Z"), (857, Cond.fieldLink RJ0 15 "java/lang/String" "coder" "B"), (856, Cond.fieldLink RJ0 9 "java/lang/String" "value" "[B"), (742, Cond.code yJ0_coder_7d493 cJ0_coder_7d493 1 (some .byte)), (739, Cond.methodLink RJ0 335 yJ0_coder_7d493), (740, Cond.instanceMethod yJ0_coder_7d493), (741, Cond.selects RJ0 yJ0_coder_7d493 yJ0_coder_7d493), (44, Cond.initialized RJ0), (638, Cond.fieldLink RJ5 18 "java/lang/String" "COMPACT_STRINGS" "Z"), (648, Cond.fieldLink RJ5 22 "java/lang/AbstractStringBuilder" "coder" "B"), (647, Cond.fieldLink RJ5 15 "java/lang/AbstractStringBuilder" "value" "[B"), (752, Cond.methodLink RJ5 40 yJ0_coder_7d493), (776, Cond.methodLink RJ0 212 arraycopyName), (703, Cond.native arraycopyName), (702, Cond.static arraycopyName), (48, Cond.initialized RJ10), (751, Cond.code yJ5_inflateIfNeededFor_a7421 cJ5_inflateIfNeededFor_a7421 2 none), (748, Cond.methodLink RJ5 397 yJ5_inflateIfNeededFor_a7421), (1070, Cond.sameMethod RJ5 RJ5 "inflateIfNeededFor" "(Ljava/lang/String;)V"), (750, Cond.instanceMethod yJ5_inflateIfNeededFor_a7421), (42, Cond.initialized RJ5), (775, Cond.code yJ0_getBytes_840e7 cJ0_getBytes_840e7 4 none), (772, Cond.methodLink RJ5 399 yJ0_getBytes_840e7), (773, Cond.instanceMethod yJ0_getBytes_840e7), (774, Cond.selects RJ0 yJ0_getBytes_840e7 yJ0_getBytes_840e7), (738, Cond.code yJ0_length_8abf5 cJ0_length_8abf5 1 (some .int)), (735, Cond.methodLink RJ5 32 yJ0_length_8abf5), (736, Cond.instanceMethod yJ0_length_8abf5), (737, Cond.selects RJ0 yJ0_length_8abf5 yJ0_length_8abf5), (650, Cond.fieldLink RJ5 79 "java/lang/AbstractStringBuilder" "count" "I")]
set_option maxRecDepth 20000 in
theorem Ut0 : ut0.all (fun q => decide (lw_tbl[q.1]? = some q.2) && goodWord q.2) = true := by decide +kernel
theorem u_743 : Cond.fieldLink RJ0 38 "java/lang/String" "COMPACT_STRINGS" "Z" ∈ TB := qg Ut0 0 rfl
theorem u_857 : Cond.fieldLink RJ0 15 "java/lang/String" "coder" "B" ∈ TB := qg Ut0 1 rfl
theorem u_856 : Cond.fieldLink RJ0 9 "java/lang/String" "value" "[B" ∈ TB := qg Ut0 2 rfl
theorem u_742 : Cond.code yJ0_coder_7d493 cJ0_coder_7d493 1 (some .byte) ∈ TB := qg Ut0 3 rfl
theorem u_739 : Cond.methodLink RJ0 335 yJ0_coder_7d493 ∈ TB := qg Ut0 4 rfl
theorem u_740 : Cond.instanceMethod yJ0_coder_7d493 ∈ TB := qg Ut0 5 rfl
theorem u_741 : Cond.selects RJ0 yJ0_coder_7d493 yJ0_coder_7d493 ∈ TB := qg Ut0 6 rfl
theorem u_44 : Cond.initialized RJ0 ∈ TB := qg Ut0 7 rfl
theorem u_638 : Cond.fieldLink RJ5 18 "java/lang/String" "COMPACT_STRINGS" "Z" ∈ TB := qg Ut0 8 rfl
theorem u_648 : Cond.fieldLink RJ5 22 "java/lang/AbstractStringBuilder" "coder" "B" ∈ TB := qg Ut0 9 rfl
theorem u_647 : Cond.fieldLink RJ5 15 "java/lang/AbstractStringBuilder" "value" "[B" ∈ TB := qg Ut0 10 rfl
theorem u_752 : Cond.methodLink RJ5 40 yJ0_coder_7d493 ∈ TB := qg Ut0 11 rfl
theorem u_776 : Cond.methodLink RJ0 212 arraycopyName ∈ TB := qg Ut0 12 rfl
theorem u_703 : Cond.native arraycopyName ∈ TB := qg Ut0 13 rfl
theorem u_702 : Cond.static arraycopyName ∈ TB := qg Ut0 14 rfl
theorem u_48 : Cond.initialized RJ10 ∈ TB := qg Ut0 15 rfl
theorem u_751 : Cond.code yJ5_inflateIfNeededFor_a7421 cJ5_inflateIfNeededFor_a7421 2 none ∈ TB := qg Ut0 16 rfl
theorem u_748 : Cond.methodLink RJ5 397 yJ5_inflateIfNeededFor_a7421 ∈ TB := qg Ut0 17 rfl
theorem u_1070 : Cond.sameMethod RJ5 RJ5 "inflateIfNeededFor" "(Ljava/lang/String;)V" ∈ TB := qg Ut0 18 rfl
theorem u_750 : Cond.instanceMethod yJ5_inflateIfNeededFor_a7421 ∈ TB := qg Ut0 19 rfl
theorem u_42 : Cond.initialized RJ5 ∈ TB := qg Ut0 20 rfl
theorem u_775 : Cond.code yJ0_getBytes_840e7 cJ0_getBytes_840e7 4 none ∈ TB := qg Ut0 21 rfl
theorem u_772 : Cond.methodLink RJ5 399 yJ0_getBytes_840e7 ∈ TB := qg Ut0 22 rfl
theorem u_773 : Cond.instanceMethod yJ0_getBytes_840e7 ∈ TB := qg Ut0 23 rfl
theorem u_774 : Cond.selects RJ0 yJ0_getBytes_840e7 yJ0_getBytes_840e7 ∈ TB := qg Ut0 24 rfl
theorem u_738 : Cond.code yJ0_length_8abf5 cJ0_length_8abf5 1 (some .int) ∈ TB := qg Ut0 25 rfl
theorem u_735 : Cond.methodLink RJ5 32 yJ0_length_8abf5 ∈ TB := qg Ut0 26 rfl
theorem u_736 : Cond.instanceMethod yJ0_length_8abf5 ∈ TB := qg Ut0 27 rfl
theorem u_737 : Cond.selects RJ0 yJ0_length_8abf5 yJ0_length_8abf5 ∈ TB := qg Ut0 28 rfl
theorem u_650 : Cond.fieldLink RJ5 79 "java/lang/AbstractStringBuilder" "count" "I" ∈ TB := qg Ut0 29 rfl
def ut1 : List (Nat × Cond) := [(676, Cond.code yJ5_ensureCapacityInternal_d00df cJ5_ensureCapacityInternal_d00df 3 none), (673, Cond.methodLink RJ5 100 yJ5_ensureCapacityInternal_d00df), (1067, Cond.sameMethod RJ5 RJ5 "ensureCapacityInternal" "(I)V"), (675, Cond.instanceMethod yJ5_ensureCapacityInternal_d00df), (747, Cond.code yJ5_putStringAt_47b60 cJ5_putStringAt_47b60 3 none), (744, Cond.methodLink RJ5 208 yJ5_putStringAt_47b60), (1069, Cond.sameMethod RJ5 RJ5 "putStringAt" "(ILjava/lang/String;)V"), (746, Cond.instanceMethod yJ5_putStringAt_47b60), (668, Cond.code yJ5_append_cf1ce cJ5_append_cf1ce 3 (some (.object "java/lang/AbstractStringBuilder"))), (666, Cond.methodLink RJ4 29 yJ5_append_cf1ce), (1065, Cond.sameMethod RJ5 RJ5 "append" "(Ljava/lang/String;)Ljava/lang/AbstractStringBuilder;"), (659, Cond.superclass RJ4 RJ5), (667, Cond.instanceMethod yJ5_append_cf1ce), (791, Cond.fieldLink RJ6 83 "java/lang/Integer" "DigitOnes" "[B"), (793, Cond.fieldLink RJ6 87 "java/lang/Integer" "DigitTens" "[B"), (787, Cond.code yJ6_stringSize_0f7a4 cJ6_stringSize_0f7a4 4 (some .int)), (785, Cond.methodLink RJ5 245 yJ6_stringSize_0f7a4), (786, Cond.static yJ6_stringSize_0f7a4), (40, Cond.initialized RJ6), (707, Cond.selects RJ4 yJ5_isLatin1_aae02 yJ5_isLatin1_aae02), (708, Cond.code yJ5_isLatin1_aae02 cJ5_isLatin1_aae02 1 (some .boolean)), (704, Cond.methodLink RJ5 83 yJ5_isLatin1_aae02), (706, Cond.sameMethod RJ5 RJ5 "isLatin1" "()Z"), (705, Cond.instanceMethod yJ5_isLatin1_aae02), (790, Cond.code yJ6_getChars_ba4f3 cJ6_getChars_ba4f3 7 (some .int)), (788, Cond.methodLink RJ5 248 yJ6_getChars_ba4f3), (789, Cond.static yJ6_getChars_ba4f3), (784, Cond.code yJ5_append_c97b9 cJ5_append_c97b9 4 (some (.object "java/lang/AbstractStringBuilder"))), (782, Cond.methodLink RJ4 53 yJ5_append_c97b9), (1072, Cond.sameMethod RJ5 RJ5 "append" "(I)Ljava/lang/AbstractStringBuilder;")]
set_option maxRecDepth 20000 in
theorem Ut1 : ut1.all (fun q => decide (lw_tbl[q.1]? = some q.2) && goodWord q.2) = true := by decide +kernel
theorem u_676 : Cond.code yJ5_ensureCapacityInternal_d00df cJ5_ensureCapacityInternal_d00df 3 none ∈ TB := qg Ut1 0 rfl
theorem u_673 : Cond.methodLink RJ5 100 yJ5_ensureCapacityInternal_d00df ∈ TB := qg Ut1 1 rfl
theorem u_1067 : Cond.sameMethod RJ5 RJ5 "ensureCapacityInternal" "(I)V" ∈ TB := qg Ut1 2 rfl
theorem u_675 : Cond.instanceMethod yJ5_ensureCapacityInternal_d00df ∈ TB := qg Ut1 3 rfl
theorem u_747 : Cond.code yJ5_putStringAt_47b60 cJ5_putStringAt_47b60 3 none ∈ TB := qg Ut1 4 rfl
theorem u_744 : Cond.methodLink RJ5 208 yJ5_putStringAt_47b60 ∈ TB := qg Ut1 5 rfl
theorem u_1069 : Cond.sameMethod RJ5 RJ5 "putStringAt" "(ILjava/lang/String;)V" ∈ TB := qg Ut1 6 rfl
theorem u_746 : Cond.instanceMethod yJ5_putStringAt_47b60 ∈ TB := qg Ut1 7 rfl
theorem u_668 : Cond.code yJ5_append_cf1ce cJ5_append_cf1ce 3 (some (.object "java/lang/AbstractStringBuilder")) ∈ TB := qg Ut1 8 rfl
theorem u_666 : Cond.methodLink RJ4 29 yJ5_append_cf1ce ∈ TB := qg Ut1 9 rfl
theorem u_1065 : Cond.sameMethod RJ5 RJ5 "append" "(Ljava/lang/String;)Ljava/lang/AbstractStringBuilder;" ∈ TB := qg Ut1 10 rfl
theorem u_659 : Cond.superclass RJ4 RJ5 ∈ TB := qg Ut1 11 rfl
theorem u_667 : Cond.instanceMethod yJ5_append_cf1ce ∈ TB := qg Ut1 12 rfl
theorem u_791 : Cond.fieldLink RJ6 83 "java/lang/Integer" "DigitOnes" "[B" ∈ TB := qg Ut1 13 rfl
theorem u_793 : Cond.fieldLink RJ6 87 "java/lang/Integer" "DigitTens" "[B" ∈ TB := qg Ut1 14 rfl
theorem u_787 : Cond.code yJ6_stringSize_0f7a4 cJ6_stringSize_0f7a4 4 (some .int) ∈ TB := qg Ut1 15 rfl
theorem u_785 : Cond.methodLink RJ5 245 yJ6_stringSize_0f7a4 ∈ TB := qg Ut1 16 rfl
theorem u_786 : Cond.static yJ6_stringSize_0f7a4 ∈ TB := qg Ut1 17 rfl
theorem u_40 : Cond.initialized RJ6 ∈ TB := qg Ut1 18 rfl
theorem u_707 : Cond.selects RJ4 yJ5_isLatin1_aae02 yJ5_isLatin1_aae02 ∈ TB := qg Ut1 19 rfl
theorem u_708 : Cond.code yJ5_isLatin1_aae02 cJ5_isLatin1_aae02 1 (some .boolean) ∈ TB := qg Ut1 20 rfl
theorem u_704 : Cond.methodLink RJ5 83 yJ5_isLatin1_aae02 ∈ TB := qg Ut1 21 rfl
theorem u_706 : Cond.sameMethod RJ5 RJ5 "isLatin1" "()Z" ∈ TB := qg Ut1 22 rfl
theorem u_705 : Cond.instanceMethod yJ5_isLatin1_aae02 ∈ TB := qg Ut1 23 rfl
theorem u_790 : Cond.code yJ6_getChars_ba4f3 cJ6_getChars_ba4f3 7 (some .int) ∈ TB := qg Ut1 24 rfl
theorem u_788 : Cond.methodLink RJ5 248 yJ6_getChars_ba4f3 ∈ TB := qg Ut1 25 rfl
theorem u_789 : Cond.static yJ6_getChars_ba4f3 ∈ TB := qg Ut1 26 rfl
theorem u_784 : Cond.code yJ5_append_c97b9 cJ5_append_c97b9 4 (some (.object "java/lang/AbstractStringBuilder")) ∈ TB := qg Ut1 27 rfl
theorem u_782 : Cond.methodLink RJ4 53 yJ5_append_c97b9 ∈ TB := qg Ut1 28 rfl
theorem u_1072 : Cond.sameMethod RJ5 RJ5 "append" "(I)Ljava/lang/AbstractStringBuilder;" ∈ TB := qg Ut1 29 rfl
def ut2 : List (Nat × Cond) := [(783, Cond.instanceMethod yJ5_append_c97b9), (832, Cond.code yJ5_length_8abf5 cJ5_length_8abf5 1 (some .int)), (831, Cond.methodLink RJ4 343 yJ5_length_8abf5), (827, Cond.sameMethod RJ5 RJ5 "length" "()I"), (826, Cond.instanceMethod yJ5_length_8abf5), (842, Cond.code yJ7_checkLength_df160 cJ7_checkLength_df160 2 none), (840, Cond.methodLink RJ7 343 yJ7_checkLength_df160), (841, Cond.static yJ7_checkLength_df160), (47, Cond.initialized RJ7), (660, Cond.arrayClass .byte), (700, Cond.methodLink RJ7 304 Lib.Math.min.name), (102, Cond.static Lib.Math.min.name), (39, Cond.initialized RJ9), (103, Cond.code Lib.Math.min.name Lib.Math.min.code 2 (some .int)), (701, Cond.methodLink RJ7 150 arraycopyName), (839, Cond.code yJ7_copyOfRangeByte_39247 cJ7_copyOfRangeByte_39247 5 (some (.array .byte))), (837, Cond.methodLink RJ7 339 yJ7_copyOfRangeByte_39247), (838, Cond.static yJ7_copyOfRangeByte_39247), (819, Cond.methodLink RJ0 1 Lib.objectInit), (346, Cond.instanceMethod Lib.objectInit), (347, Cond.code Lib.objectInit ⟨#[0xb1]⟩ 1 none), (823, Cond.selects RJ4 yJ5_getValue_6d5f1 yJ5_getValue_6d5f1), (824, Cond.code yJ5_getValue_6d5f1 cJ5_getValue_6d5f1 1 (some (.array .byte))), (820, Cond.methodLink RJ0 552 yJ5_getValue_6d5f1), (822, Cond.sameMethod RJ5 RJ5 "getValue" "()[B"), (821, Cond.instanceMethod yJ5_getValue_6d5f1), (828, Cond.selects RJ4 yJ5_length_8abf5 yJ4_length_8abf5), (830, Cond.code yJ4_length_8abf5 cJ4_length_8abf5 1 (some .int)), (825, Cond.methodLink RJ0 549 yJ5_length_8abf5), (829, Cond.instanceMethod yJ4_length_8abf5)]
set_option maxRecDepth 20000 in
theorem Ut2 : ut2.all (fun q => decide (lw_tbl[q.1]? = some q.2) && goodWord q.2) = true := by decide +kernel
theorem u_783 : Cond.instanceMethod yJ5_append_c97b9 ∈ TB := qg Ut2 0 rfl
theorem u_832 : Cond.code yJ5_length_8abf5 cJ5_length_8abf5 1 (some .int) ∈ TB := qg Ut2 1 rfl
theorem u_831 : Cond.methodLink RJ4 343 yJ5_length_8abf5 ∈ TB := qg Ut2 2 rfl
theorem u_827 : Cond.sameMethod RJ5 RJ5 "length" "()I" ∈ TB := qg Ut2 3 rfl
theorem u_826 : Cond.instanceMethod yJ5_length_8abf5 ∈ TB := qg Ut2 4 rfl
theorem u_842 : Cond.code yJ7_checkLength_df160 cJ7_checkLength_df160 2 none ∈ TB := qg Ut2 5 rfl
theorem u_840 : Cond.methodLink RJ7 343 yJ7_checkLength_df160 ∈ TB := qg Ut2 6 rfl
theorem u_841 : Cond.static yJ7_checkLength_df160 ∈ TB := qg Ut2 7 rfl
theorem u_47 : Cond.initialized RJ7 ∈ TB := qg Ut2 8 rfl
theorem u_660 : Cond.arrayClass .byte ∈ TB := qg Ut2 9 rfl
theorem u_700 : Cond.methodLink RJ7 304 Lib.Math.min.name ∈ TB := qg Ut2 10 rfl
theorem u_102 : Cond.static Lib.Math.min.name ∈ TB := qg Ut2 11 rfl
theorem u_39 : Cond.initialized RJ9 ∈ TB := qg Ut2 12 rfl
theorem u_103 : Cond.code Lib.Math.min.name Lib.Math.min.code 2 (some .int) ∈ TB := qg Ut2 13 rfl
theorem u_701 : Cond.methodLink RJ7 150 arraycopyName ∈ TB := qg Ut2 14 rfl
theorem u_839 : Cond.code yJ7_copyOfRangeByte_39247 cJ7_copyOfRangeByte_39247 5 (some (.array .byte)) ∈ TB := qg Ut2 15 rfl
theorem u_837 : Cond.methodLink RJ7 339 yJ7_copyOfRangeByte_39247 ∈ TB := qg Ut2 16 rfl
theorem u_838 : Cond.static yJ7_copyOfRangeByte_39247 ∈ TB := qg Ut2 17 rfl
theorem u_819 : Cond.methodLink RJ0 1 Lib.objectInit ∈ TB := qg Ut2 18 rfl
theorem u_346 : Cond.instanceMethod Lib.objectInit ∈ TB := qg Ut2 19 rfl
theorem u_347 : Cond.code Lib.objectInit ⟨#[0xb1]⟩ 1 none ∈ TB := qg Ut2 20 rfl
theorem u_823 : Cond.selects RJ4 yJ5_getValue_6d5f1 yJ5_getValue_6d5f1 ∈ TB := qg Ut2 21 rfl
theorem u_824 : Cond.code yJ5_getValue_6d5f1 cJ5_getValue_6d5f1 1 (some (.array .byte)) ∈ TB := qg Ut2 22 rfl
theorem u_820 : Cond.methodLink RJ0 552 yJ5_getValue_6d5f1 ∈ TB := qg Ut2 23 rfl
theorem u_822 : Cond.sameMethod RJ5 RJ5 "getValue" "()[B" ∈ TB := qg Ut2 24 rfl
theorem u_821 : Cond.instanceMethod yJ5_getValue_6d5f1 ∈ TB := qg Ut2 25 rfl
theorem u_828 : Cond.selects RJ4 yJ5_length_8abf5 yJ4_length_8abf5 ∈ TB := qg Ut2 26 rfl
theorem u_830 : Cond.code yJ4_length_8abf5 cJ4_length_8abf5 1 (some .int) ∈ TB := qg Ut2 27 rfl
theorem u_825 : Cond.methodLink RJ0 549 yJ5_length_8abf5 ∈ TB := qg Ut2 28 rfl
theorem u_829 : Cond.instanceMethod yJ4_length_8abf5 ∈ TB := qg Ut2 29 rfl
def ut3 : List (Nat × Cond) := [(43, Cond.initialized RJ4), (833, Cond.methodLink RJ0 1047 yJ5_isLatin1_aae02), (836, Cond.code yJ7_copyOfRange_39247 cJ7_copyOfRange_39247 3 (some (.array .byte))), (834, Cond.methodLink RJ0 54 yJ7_copyOfRange_39247), (835, Cond.static yJ7_copyOfRange_39247), (818, Cond.code yJ0_init_db425 cJ0_init_db425 5 none), (816, Cond.methodLink RJ0 489 yJ0_init_db425), (817, Cond.instanceMethod yJ0_init_db425), (811, Cond.classLink RJ4 18 RJ0), (812, Cond.instantiable RJ0 4), (815, Cond.code yJ0_init_81219 cJ0_init_81219 2 none), (813, Cond.methodLink RJ4 137 yJ0_init_81219), (814, Cond.instanceMethod yJ0_init_81219), (637, Cond.methodLink RJ5 3 Lib.objectInit), (636, Cond.code yJ5_init_d00df cJ5_init_d00df 2 none), (634, Cond.methodLink RJ4 1 yJ5_init_d00df), (635, Cond.instanceMethod yJ5_init_d00df), (721, Cond.fieldLink RJ0 1053 "jdk/internal/util/Preconditions" "SIOOBE_FORMATTER" "Ljava/util/function/BiFunction;"), (888, Cond.code yJ3_checkIndex_8e157 cJ3_checkIndex_8e157 3 (some .int)), (886, Cond.methodLink RJ0 1059 yJ3_checkIndex_8e157), (887, Cond.static yJ3_checkIndex_8e157), (49, Cond.initialized RJ3), (885, Cond.code yJ0_checkIndex_df160 cJ0_checkIndex_df160 2 none), (883, Cond.methodLink RJ1 9 yJ0_checkIndex_df160), (884, Cond.static yJ0_checkIndex_df160), (879, Cond.code yJ0_isLatin1_aae02 cJ0_isLatin1_aae02 1 (some .boolean)), (876, Cond.methodLink RJ0 492 yJ0_isLatin1_aae02), (877, Cond.instanceMethod yJ0_isLatin1_aae02), (878, Cond.selects RJ0 yJ0_isLatin1_aae02 yJ0_isLatin1_aae02), (882, Cond.code yJ1_charAt_3b067 cJ1_charAt_3b067 2 (some .char))]
set_option maxRecDepth 20000 in
theorem Ut3 : ut3.all (fun q => decide (lw_tbl[q.1]? = some q.2) && goodWord q.2) = true := by decide +kernel
theorem u_43 : Cond.initialized RJ4 ∈ TB := qg Ut3 0 rfl
theorem u_833 : Cond.methodLink RJ0 1047 yJ5_isLatin1_aae02 ∈ TB := qg Ut3 1 rfl
theorem u_836 : Cond.code yJ7_copyOfRange_39247 cJ7_copyOfRange_39247 3 (some (.array .byte)) ∈ TB := qg Ut3 2 rfl
theorem u_834 : Cond.methodLink RJ0 54 yJ7_copyOfRange_39247 ∈ TB := qg Ut3 3 rfl
theorem u_835 : Cond.static yJ7_copyOfRange_39247 ∈ TB := qg Ut3 4 rfl
theorem u_818 : Cond.code yJ0_init_db425 cJ0_init_db425 5 none ∈ TB := qg Ut3 5 rfl
theorem u_816 : Cond.methodLink RJ0 489 yJ0_init_db425 ∈ TB := qg Ut3 6 rfl
theorem u_817 : Cond.instanceMethod yJ0_init_db425 ∈ TB := qg Ut3 7 rfl
theorem u_811 : Cond.classLink RJ4 18 RJ0 ∈ TB := qg Ut3 8 rfl
theorem u_812 : Cond.instantiable RJ0 4 ∈ TB := qg Ut3 9 rfl
theorem u_815 : Cond.code yJ0_init_81219 cJ0_init_81219 2 none ∈ TB := qg Ut3 10 rfl
theorem u_813 : Cond.methodLink RJ4 137 yJ0_init_81219 ∈ TB := qg Ut3 11 rfl
theorem u_814 : Cond.instanceMethod yJ0_init_81219 ∈ TB := qg Ut3 12 rfl
theorem u_637 : Cond.methodLink RJ5 3 Lib.objectInit ∈ TB := qg Ut3 13 rfl
theorem u_636 : Cond.code yJ5_init_d00df cJ5_init_d00df 2 none ∈ TB := qg Ut3 14 rfl
theorem u_634 : Cond.methodLink RJ4 1 yJ5_init_d00df ∈ TB := qg Ut3 15 rfl
theorem u_635 : Cond.instanceMethod yJ5_init_d00df ∈ TB := qg Ut3 16 rfl
theorem u_721 : Cond.fieldLink RJ0 1053 "jdk/internal/util/Preconditions" "SIOOBE_FORMATTER" "Ljava/util/function/BiFunction;" ∈ TB := qg Ut3 17 rfl
theorem u_888 : Cond.code yJ3_checkIndex_8e157 cJ3_checkIndex_8e157 3 (some .int) ∈ TB := qg Ut3 18 rfl
theorem u_886 : Cond.methodLink RJ0 1059 yJ3_checkIndex_8e157 ∈ TB := qg Ut3 19 rfl
theorem u_887 : Cond.static yJ3_checkIndex_8e157 ∈ TB := qg Ut3 20 rfl
theorem u_49 : Cond.initialized RJ3 ∈ TB := qg Ut3 21 rfl
theorem u_885 : Cond.code yJ0_checkIndex_df160 cJ0_checkIndex_df160 2 none ∈ TB := qg Ut3 22 rfl
theorem u_883 : Cond.methodLink RJ1 9 yJ0_checkIndex_df160 ∈ TB := qg Ut3 23 rfl
theorem u_884 : Cond.static yJ0_checkIndex_df160 ∈ TB := qg Ut3 24 rfl
theorem u_879 : Cond.code yJ0_isLatin1_aae02 cJ0_isLatin1_aae02 1 (some .boolean) ∈ TB := qg Ut3 25 rfl
theorem u_876 : Cond.methodLink RJ0 492 yJ0_isLatin1_aae02 ∈ TB := qg Ut3 26 rfl
theorem u_877 : Cond.instanceMethod yJ0_isLatin1_aae02 ∈ TB := qg Ut3 27 rfl
theorem u_878 : Cond.selects RJ0 yJ0_isLatin1_aae02 yJ0_isLatin1_aae02 ∈ TB := qg Ut3 28 rfl
theorem u_882 : Cond.code yJ1_charAt_3b067 cJ1_charAt_3b067 2 (some .char) ∈ TB := qg Ut3 29 rfl
def ut4 : List (Nat × Cond) := [(880, Cond.methodLink RJ0 495 yJ1_charAt_3b067), (881, Cond.static yJ1_charAt_3b067), (50, Cond.initialized RJ1)]
set_option maxRecDepth 20000 in
theorem Ut4 : ut4.all (fun q => decide (lw_tbl[q.1]? = some q.2) && goodWord q.2) = true := by decide +kernel
theorem u_880 : Cond.methodLink RJ0 495 yJ1_charAt_3b067 ∈ TB := qg Ut4 0 rfl
theorem u_881 : Cond.static yJ1_charAt_3b067 ∈ TB := qg Ut4 1 rfl
theorem u_50 : Cond.initialized RJ1 ∈ TB := qg Ut4 2 rfl
theorem qJ0_335 : WV RJ0 335 RJ0 yJ0_coder_7d493 cJ0_coder_7d493 1 (some .byte) 0 := ⟨u_742, u_739, u_740, u_741, u_44, by decide +kernel⟩
theorem fdJ5_22_11 : Fd9 RJ5 22 11 1 := ⟨RJ4, TJ4, 4, tyJ4, rfl, inJ4t, tyJ4_ok, nmJ4, by decide, u_648⟩
theorem fdJ5_15_11 : Fd9 RJ5 15 11 0 := ⟨RJ4, TJ4, 4, tyJ4, rfl, inJ4t, tyJ4_ok, nmJ4, by decide, u_647⟩
theorem qJ5_40 : WV RJ5 40 RJ0 yJ0_coder_7d493 cJ0_coder_7d493 1 (some .byte) 0 := ⟨u_742, u_752, u_740, u_741, u_44, by decide +kernel⟩
theorem qJ5_397 : WU RJ5 397 11 yJ5_inflateIfNeededFor_a7421 yJ5_inflateIfNeededFor_a7421 cJ5_inflateIfNeededFor_a7421 2 none 1 := ⟨⟨RJ4, TJ4, 4, rfl, Or.inr ⟨rfl, by decide, rfl⟩⟩, u_751, u_748, u_1070, u_750, ⟨_, _, _, u_751⟩, u_750, u_42, by decide +kernel⟩
theorem qJ5_399 : WV RJ5 399 RJ0 yJ0_getBytes_840e7 cJ0_getBytes_840e7 4 none 3 := ⟨u_775, u_772, u_773, u_774, u_44, by decide +kernel⟩
theorem qJ5_32 : WV RJ5 32 RJ0 yJ0_length_8abf5 cJ0_length_8abf5 1 (some .int) 0 := ⟨u_738, u_735, u_736, u_737, u_44, by decide +kernel⟩
theorem fdJ5_79_11 : Fd9 RJ5 79 11 3 := ⟨RJ4, TJ4, 4, tyJ4, rfl, inJ4t, tyJ4_ok, nmJ4, by decide, u_650⟩
theorem qJ5_100 : WU RJ5 100 11 yJ5_ensureCapacityInternal_d00df yJ5_ensureCapacityInternal_d00df cJ5_ensureCapacityInternal_d00df 3 none 1 := ⟨⟨RJ4, TJ4, 4, rfl, Or.inr ⟨rfl, by decide, rfl⟩⟩, u_676, u_673, u_1067, u_675, ⟨_, _, _, u_676⟩, u_675, u_42, by decide +kernel⟩
theorem qJ5_208 : WU RJ5 208 11 yJ5_putStringAt_47b60 yJ5_putStringAt_47b60 cJ5_putStringAt_47b60 3 none 2 := ⟨⟨RJ4, TJ4, 4, rfl, Or.inr ⟨rfl, by decide, rfl⟩⟩, u_747, u_744, u_1069, u_746, ⟨_, _, _, u_747⟩, u_746, u_42, by decide +kernel⟩
theorem pf11_3 : ∀ C T N', vwCl[11]? = some (C, T, N') → (T 3).2.2.2 = false ∧ parseFieldDescriptor (T 3).2.2.1 = some .int := fun C T N h => by cases h; exact ⟨rfl, by decide +kernel⟩
theorem qJ4_29 : WSU RJ4 29 yJ5_append_cf1ce cJ5_append_cf1ce 3 (some (.object "java/lang/AbstractStringBuilder")) 1 := ⟨u_668, u_666, u_1065, u_659, u_667, u_42, by decide +kernel⟩
theorem qJ5_245 : WS RJ5 245 yJ6_stringSize_0f7a4 cJ6_stringSize_0f7a4 4 (some .int) 1 := ⟨u_787, u_785, u_786, u_40, by decide +kernel⟩
theorem qJ5_83 : WU RJ5 83 11 yJ5_isLatin1_aae02 yJ5_isLatin1_aae02 cJ5_isLatin1_aae02 1 (some .boolean) 0 := ⟨⟨RJ4, TJ4, 4, rfl, Or.inl u_707⟩, u_708, u_704, u_706, u_705, ⟨_, _, _, u_708⟩, u_705, u_42, by decide +kernel⟩
theorem qJ5_248 : WS RJ5 248 yJ6_getChars_ba4f3 cJ6_getChars_ba4f3 7 (some .int) 3 := ⟨u_790, u_788, u_789, u_40, by decide +kernel⟩
theorem qJ4_53 : WSU RJ4 53 yJ5_append_c97b9 cJ5_append_c97b9 4 (some (.object "java/lang/AbstractStringBuilder")) 1 := ⟨u_784, u_782, u_1072, u_659, u_783, u_42, by decide +kernel⟩
theorem qJ4_343 : WSU RJ4 343 yJ5_length_8abf5 cJ5_length_8abf5 1 (some .int) 0 := ⟨u_832, u_831, u_827, u_659, u_826, u_42, by decide +kernel⟩
theorem qJ7_343 : WS RJ7 343 yJ7_checkLength_df160 cJ7_checkLength_df160 2 none 2 := ⟨u_842, u_840, u_841, u_47, by decide +kernel⟩
theorem qJ7_339 : WS RJ7 339 yJ7_copyOfRangeByte_39247 cJ7_copyOfRangeByte_39247 5 (some (.array .byte)) 3 := ⟨u_839, u_837, u_838, u_47, by decide +kernel⟩
theorem qJ0_552 : WU RJ0 552 11 yJ5_getValue_6d5f1 yJ5_getValue_6d5f1 cJ5_getValue_6d5f1 1 (some (.array .byte)) 0 := ⟨⟨RJ4, TJ4, 4, rfl, Or.inl u_823⟩, u_824, u_820, u_822, u_821, ⟨_, _, _, u_824⟩, u_821, u_42, by decide +kernel⟩
theorem qJ0_549 : WU RJ0 549 11 yJ5_length_8abf5 yJ4_length_8abf5 cJ4_length_8abf5 1 (some .int) 0 := ⟨⟨RJ4, TJ4, 4, rfl, Or.inl u_828⟩, u_830, u_825, u_827, u_826, ⟨_, _, _, u_832⟩, u_829, u_43, by decide +kernel⟩
theorem qJ0_1047 : WU RJ0 1047 11 yJ5_isLatin1_aae02 yJ5_isLatin1_aae02 cJ5_isLatin1_aae02 1 (some .boolean) 0 := ⟨⟨RJ4, TJ4, 4, rfl, Or.inl u_707⟩, u_708, u_833, u_706, u_705, ⟨_, _, _, u_708⟩, u_705, u_42, by decide +kernel⟩
theorem fdJ0_15_10 : Fd9 RJ0 15 10 1 := ⟨RJ0, TJ0, 4, tyJ0, rfl, inJ0t, tyJ0_ok, nmJ0, by decide, u_857⟩
theorem pf10_1 : ∀ C T N', vwCl[10]? = some (C, T, N') → (T 1).2.2.2 = true ∧ parseFieldDescriptor (T 1).2.2.1 = some .byte ∧ (T 1).1 = RJ0 := fun C T N h => by cases h; exact ⟨rfl, by decide +kernel, rfl⟩
theorem qJ0_54 : WS RJ0 54 yJ7_copyOfRange_39247 cJ7_copyOfRange_39247 3 (some (.array .byte)) 3 := ⟨u_836, u_834, u_835, u_47, by decide +kernel⟩
theorem fdJ0_9_10 : Fd9 RJ0 9 10 0 := ⟨RJ0, TJ0, 4, tyJ0, rfl, inJ0t, tyJ0_ok, nmJ0, by decide, u_856⟩
theorem pf10_0 : ∀ C T N', vwCl[10]? = some (C, T, N') → (T 0).2.2.2 = true ∧ parseFieldDescriptor (T 0).2.2.1 = some (.array .byte) ∧ (T 0).1 = RJ0 := fun C T N h => by cases h; exact ⟨rfl, by decide +kernel, rfl⟩
theorem qJ0_489 : Cond.code yJ0_init_db425 cJ0_init_db425 5 none ∈ TB ∧ Cond.methodLink RJ0 489 yJ0_init_db425 ∈ TB ∧ Cond.instanceMethod yJ0_init_db425 ∈ TB ∧ Cond.initialized yJ0_init_db425.cls ∈ TB ∧ yJ0_init_db425.name = "<init>" ∧ (yJ0_init_db425.cls ≠ "java/lang/invoke/MethodHandle" ∧ yJ0_init_db425.cls ≠ "java/lang/invoke/VarHandle" ∧ (parseMethodDescriptor yJ0_init_db425.desc).map (fun d => d.parameters.length) = some 2) := ⟨u_818, u_816, u_817, u_44, rfl, by decide +kernel⟩
theorem qJ4_137 : Cond.code yJ0_init_81219 cJ0_init_81219 2 none ∈ TB ∧ Cond.methodLink RJ4 137 yJ0_init_81219 ∈ TB ∧ Cond.instanceMethod yJ0_init_81219 ∈ TB ∧ Cond.initialized yJ0_init_81219.cls ∈ TB ∧ yJ0_init_81219.name = "<init>" ∧ (yJ0_init_81219.cls ≠ "java/lang/invoke/MethodHandle" ∧ yJ0_init_81219.cls ≠ "java/lang/invoke/VarHandle" ∧ (parseMethodDescriptor yJ0_init_81219.desc).map (fun d => d.parameters.length) = some 1) := ⟨u_815, u_813, u_814, u_44, rfl, by decide +kernel⟩
theorem pf11_0 : ∀ C T N', vwCl[11]? = some (C, T, N') → (T 0).2.2.2 = false ∧ parseFieldDescriptor (T 0).2.2.1 = some (.array .byte) := fun C T N h => by cases h; exact ⟨rfl, by decide +kernel⟩
theorem pf11_1 : ∀ C T N', vwCl[11]? = some (C, T, N') → (T 1).2.2.2 = false ∧ parseFieldDescriptor (T 1).2.2.1 = some .byte := fun C T N h => by cases h; exact ⟨rfl, by decide +kernel⟩
theorem qJ4_1 : Cond.code yJ5_init_d00df cJ5_init_d00df 2 none ∈ TB ∧ Cond.methodLink RJ4 1 yJ5_init_d00df ∈ TB ∧ Cond.instanceMethod yJ5_init_d00df ∈ TB ∧ Cond.initialized yJ5_init_d00df.cls ∈ TB ∧ yJ5_init_d00df.name = "<init>" ∧ (yJ5_init_d00df.cls ≠ "java/lang/invoke/MethodHandle" ∧ yJ5_init_d00df.cls ≠ "java/lang/invoke/VarHandle" ∧ (parseMethodDescriptor yJ5_init_d00df.desc).map (fun d => d.parameters.length) = some 1) := ⟨u_636, u_634, u_635, u_42, rfl, by decide +kernel⟩
theorem qJ0_1059 : WS RJ0 1059 yJ3_checkIndex_8e157 cJ3_checkIndex_8e157 3 (some .int) 3 := ⟨u_888, u_886, u_887, u_49, by decide +kernel⟩
theorem qJ1_9 : WS RJ1 9 yJ0_checkIndex_df160 cJ0_checkIndex_df160 2 none 2 := ⟨u_885, u_883, u_884, u_44, by decide +kernel⟩
theorem qJ0_492 : WV RJ0 492 RJ0 yJ0_isLatin1_aae02 cJ0_isLatin1_aae02 1 (some .boolean) 0 := ⟨u_879, u_876, u_877, u_878, u_44, by decide +kernel⟩
theorem qJ0_495 : WS RJ0 495 yJ1_charAt_3b067 cJ1_charAt_3b067 2 (some .char) 2 := ⟨u_882, u_880, u_881, u_50, by decide +kernel⟩
