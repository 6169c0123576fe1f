-- ===== PART A: goes FIRST, ahead of the names: the tables' words, and 'selects' of the private methods out of them =====
/-- a private method of a class that the tables say can be made, by its rows of tables_1 -/
def lw_okq (q : MethodName × Nat) : Prop := (q.1.cls ≠ "java/lang/invoke/MethodHandle" ∧ q.1.cls ≠ "java/lang/invoke/VarHandle") ∧ Cond.instantiable q.1.cls q.2 ∈ tables_1 ∧ Cond.privateMethod q.1 ∈ tables_1 ∧ Cond.instanceMethod q.1 ∈ tables_1
theorem lw_p0 : lw_okq (⟨"FortressWatch$Wall", "copyPlace", "(LFortressWatch$Wall;II)V"⟩, 11) := ⟨⟨by decide +kernel, by decide +kernel⟩, List.mem_of_getElem? (i := 34) (by decide +kernel), List.mem_of_getElem? (i := 32) (by decide +kernel), List.mem_of_getElem? (i := 33) (by decide +kernel)⟩
theorem lw_p1 : lw_okq (⟨"FortressWatch", "buildPost", "(III)I"⟩, 13) := ⟨⟨by decide +kernel, by decide +kernel⟩, List.mem_of_getElem? (i := 39) (by decide +kernel), List.mem_of_getElem? (i := 37) (by decide +kernel), List.mem_of_getElem? (i := 38) (by decide +kernel)⟩
theorem lw_p2 : lw_okq (⟨"FortressWatch", "refuse", "(II)I"⟩, 13) := ⟨⟨by decide +kernel, by decide +kernel⟩, List.mem_of_getElem? (i := 39) (by decide +kernel), List.mem_of_getElem? (i := 52) (by decide +kernel), List.mem_of_getElem? (i := 53) (by decide +kernel)⟩
theorem lw_p3 : lw_okq (⟨"FortressWatch", "kept", "(I)I"⟩, 13) := ⟨⟨by decide +kernel, by decide +kernel⟩, List.mem_of_getElem? (i := 39) (by decide +kernel), List.mem_of_getElem? (i := 65) (by decide +kernel), List.mem_of_getElem? (i := 66) (by decide +kernel)⟩
theorem lw_p4 : lw_okq (⟨"FortressWatch", "tearDown", "(I)I"⟩, 13) := ⟨⟨by decide +kernel, by decide +kernel⟩, List.mem_of_getElem? (i := 39) (by decide +kernel), List.mem_of_getElem? (i := 81) (by decide +kernel), List.mem_of_getElem? (i := 82) (by decide +kernel)⟩
theorem lw_p5 : lw_okq (⟨"FortressWatch$Wall", "empty", "(I)V"⟩, 11) := ⟨⟨by decide +kernel, by decide +kernel⟩, List.mem_of_getElem? (i := 34) (by decide +kernel), List.mem_of_getElem? (i := 93) (by decide +kernel), List.mem_of_getElem? (i := 94) (by decide +kernel)⟩
theorem lw_p6 : lw_okq (⟨"FortressWatch", "tellHour", "(I)I"⟩, 13) := ⟨⟨by decide +kernel, by decide +kernel⟩, List.mem_of_getElem? (i := 39) (by decide +kernel), List.mem_of_getElem? (i := 101) (by decide +kernel), List.mem_of_getElem? (i := 102) (by decide +kernel)⟩
theorem lw_p7 : lw_okq (⟨"FortressWatch", "manFewest", "()I"⟩, 13) := ⟨⟨by decide +kernel, by decide +kernel⟩, List.mem_of_getElem? (i := 39) (by decide +kernel), List.mem_of_getElem? (i := 112) (by decide +kernel), List.mem_of_getElem? (i := 113) (by decide +kernel)⟩
theorem lw_p8 : lw_okq (⟨"FortressWatch$Chooser", "fillSets", "(LFortressWatch$Sights;)V"⟩, 5) := ⟨⟨by decide +kernel, by decide +kernel⟩, List.mem_of_getElem? (i := 141) (by decide +kernel), List.mem_of_getElem? (i := 139) (by decide +kernel), List.mem_of_getElem? (i := 140) (by decide +kernel)⟩
theorem lw_p9 : lw_okq (⟨"FortressWatch", "manyUnseen", "()I"⟩, 13) := ⟨⟨by decide +kernel, by decide +kernel⟩, List.mem_of_getElem? (i := 39) (by decide +kernel), List.mem_of_getElem? (i := 155) (by decide +kernel), List.mem_of_getElem? (i := 156) (by decide +kernel)⟩
theorem lw_p10 : lw_okq (⟨"FortressWatch", "closingMost", "(I)I"⟩, 13) := ⟨⟨by decide +kernel, by decide +kernel⟩, List.mem_of_getElem? (i := 39) (by decide +kernel), List.mem_of_getElem? (i := 179) (by decide +kernel), List.mem_of_getElem? (i := 180) (by decide +kernel)⟩
theorem lw_p11 : lw_okq (⟨"FortressWatch", "keyOf", "(II)I"⟩, 13) := ⟨⟨by decide +kernel, by decide +kernel⟩, List.mem_of_getElem? (i := 39) (by decide +kernel), List.mem_of_getElem? (i := 208) (by decide +kernel), List.mem_of_getElem? (i := 209) (by decide +kernel)⟩
theorem lw_p12 : lw_okq (⟨"FortressWatch$Order", "placeOf", "(II)I"⟩, 1) := ⟨⟨by decide +kernel, by decide +kernel⟩, List.mem_of_getElem? (i := 236) (by decide +kernel), List.mem_of_getElem? (i := 234) (by decide +kernel), List.mem_of_getElem? (i := 235) (by decide +kernel)⟩
theorem lw_p13 : lw_okq (⟨"FortressWatch", "sightAccount", "(I)I"⟩, 13) := ⟨⟨by decide +kernel, by decide +kernel⟩, List.mem_of_getElem? (i := 39) (by decide +kernel), List.mem_of_getElem? (i := 247) (by decide +kernel), List.mem_of_getElem? (i := 248) (by decide +kernel)⟩
theorem lw_p14 : lw_okq (⟨"FortressWatch$Gaps", "add", "(II)V"⟩, 3) := ⟨⟨by decide +kernel, by decide +kernel⟩, List.mem_of_getElem? (i := 257) (by decide +kernel), List.mem_of_getElem? (i := 255) (by decide +kernel), List.mem_of_getElem? (i := 256) (by decide +kernel)⟩
theorem lw_p15 : lw_okq (⟨"FortressWatch", "letBeManned", "(II)I"⟩, 13) := ⟨⟨by decide +kernel, by decide +kernel⟩, List.mem_of_getElem? (i := 39) (by decide +kernel), List.mem_of_getElem? (i := 562) (by decide +kernel), List.mem_of_getElem? (i := 563) (by decide +kernel)⟩
def lw_privs_1 : List (MethodName × Nat) := [(⟨"FortressWatch$Wall", "copyPlace", "(LFortressWatch$Wall;II)V"⟩, 11), (⟨"FortressWatch", "buildPost", "(III)I"⟩, 13), (⟨"FortressWatch", "refuse", "(II)I"⟩, 13), (⟨"FortressWatch", "kept", "(I)I"⟩, 13), (⟨"FortressWatch", "tearDown", "(I)I"⟩, 13), (⟨"FortressWatch$Wall", "empty", "(I)V"⟩, 11), (⟨"FortressWatch", "tellHour", "(I)I"⟩, 13), (⟨"FortressWatch", "manFewest", "()I"⟩, 13), (⟨"FortressWatch$Chooser", "fillSets", "(LFortressWatch$Sights;)V"⟩, 5), (⟨"FortressWatch", "manyUnseen", "()I"⟩, 13), (⟨"FortressWatch", "closingMost", "(I)I"⟩, 13), (⟨"FortressWatch", "keyOf", "(II)I"⟩, 13), (⟨"FortressWatch$Order", "placeOf", "(II)I"⟩, 1), (⟨"FortressWatch", "sightAccount", "(I)I"⟩, 13), (⟨"FortressWatch$Gaps", "add", "(II)V"⟩, 3), (⟨"FortressWatch", "letBeManned", "(II)I"⟩, 13)]
theorem lw_r1 : ∀ q ∈ lw_privs_1, lw_okq q := List.forall_mem_cons.mpr ⟨lw_p0, List.forall_mem_cons.mpr ⟨lw_p1, List.forall_mem_cons.mpr ⟨lw_p2, List.forall_mem_cons.mpr ⟨lw_p3, List.forall_mem_cons.mpr ⟨lw_p4, List.forall_mem_cons.mpr ⟨lw_p5, List.forall_mem_cons.mpr ⟨lw_p6, List.forall_mem_cons.mpr ⟨lw_p7, List.forall_mem_cons.mpr ⟨lw_p8, List.forall_mem_cons.mpr ⟨lw_p9, List.forall_mem_cons.mpr ⟨lw_p10, List.forall_mem_cons.mpr ⟨lw_p11, List.forall_mem_cons.mpr ⟨lw_p12, List.forall_mem_cons.mpr ⟨lw_p13, List.forall_mem_cons.mpr ⟨lw_p14, List.forall_mem_cons.mpr ⟨lw_p15, fun _ h => absurd h List.not_mem_nil⟩⟩⟩⟩⟩⟩⟩⟩⟩⟩⟩⟩⟩⟩⟩⟩
theorem lw_p16 : lw_okq (⟨"FortressWatch", "manyWatchedNow", "()I"⟩, 13) := ⟨⟨by decide +kernel, by decide +kernel⟩, List.mem_of_getElem? (i := 39) (by decide +kernel), List.mem_of_getElem? (i := 566) (by decide +kernel), List.mem_of_getElem? (i := 567) (by decide +kernel)⟩
theorem lw_p17 : lw_okq (⟨"FortressWatch", "tellBlindAngle", "(III)I"⟩, 13) := ⟨⟨by decide +kernel, by decide +kernel⟩, List.mem_of_getElem? (i := 39) (by decide +kernel), List.mem_of_getElem? (i := 574) (by decide +kernel), List.mem_of_getElem? (i := 575) (by decide +kernel)⟩
theorem lw_p18 : lw_okq (⟨"FortressWatch", "manySeenNow", "(I)I"⟩, 13) := ⟨⟨by decide +kernel, by decide +kernel⟩, List.mem_of_getElem? (i := 39) (by decide +kernel), List.mem_of_getElem? (i := 578) (by decide +kernel), List.mem_of_getElem? (i := 579) (by decide +kernel)⟩
theorem lw_p19 : lw_okq (⟨"FortressWatch", "tellReaches", "(III)I"⟩, 13) := ⟨⟨by decide +kernel, by decide +kernel⟩, List.mem_of_getElem? (i := 39) (by decide +kernel), List.mem_of_getElem? (i := 590) (by decide +kernel), List.mem_of_getElem? (i := 591) (by decide +kernel)⟩
theorem lw_p20 : lw_okq (⟨"FortressWatch", "dropBlindAngle", "(I)I"⟩, 13) := ⟨⟨by decide +kernel, by decide +kernel⟩, List.mem_of_getElem? (i := 39) (by decide +kernel), List.mem_of_getElem? (i := 598) (by decide +kernel), List.mem_of_getElem? (i := 599) (by decide +kernel)⟩
theorem lw_p21 : lw_okq (⟨"FortressWatch$Text", "codeHere", "()I"⟩, 7) := ⟨⟨by decide +kernel, by decide +kernel⟩, List.mem_of_getElem? (i := 457) (by decide +kernel), List.mem_of_getElem? (i := 893) (by decide +kernel), List.mem_of_getElem? (i := 894) (by decide +kernel)⟩
theorem lw_p22 : lw_okq (⟨"FortressWatch$Text", "takeFirst", "(I)Z"⟩, 7) := ⟨⟨by decide +kernel, by decide +kernel⟩, List.mem_of_getElem? (i := 457) (by decide +kernel), List.mem_of_getElem? (i := 901) (by decide +kernel), List.mem_of_getElem? (i := 902) (by decide +kernel)⟩
theorem lw_p23 : lw_okq (⟨"FortressWatch$Text", "takeNumber", "(I)I"⟩, 7) := ⟨⟨by decide +kernel, by decide +kernel⟩, List.mem_of_getElem? (i := 457) (by decide +kernel), List.mem_of_getElem? (i := 905) (by decide +kernel), List.mem_of_getElem? (i := 906) (by decide +kernel)⟩
theorem lw_p24 : lw_okq (⟨"FortressWatch$Text", "takeSecond", "(I)Z"⟩, 7) := ⟨⟨by decide +kernel, by decide +kernel⟩, List.mem_of_getElem? (i := 457) (by decide +kernel), List.mem_of_getElem? (i := 909) (by decide +kernel), List.mem_of_getElem? (i := 910) (by decide +kernel)⟩
theorem lw_p25 : lw_okq (⟨"FortressWatch$Text", "takeThird", "(I)Z"⟩, 7) := ⟨⟨by decide +kernel, by decide +kernel⟩, List.mem_of_getElem? (i := 457) (by decide +kernel), List.mem_of_getElem? (i := 913) (by decide +kernel), List.mem_of_getElem? (i := 914) (by decide +kernel)⟩
theorem lw_p26 : lw_okq (⟨"FortressWatch", "carryOutAll", "()I"⟩, 13) := ⟨⟨by decide +kernel, by decide +kernel⟩, List.mem_of_getElem? (i := 39) (by decide +kernel), List.mem_of_getElem? (i := 921) (by decide +kernel), List.mem_of_getElem? (i := 922) (by decide +kernel)⟩
theorem lw_p27 : lw_okq (⟨"FortressWatch", "carryOut", "()I"⟩, 13) := ⟨⟨by decide +kernel, by decide +kernel⟩, List.mem_of_getElem? (i := 39) (by decide +kernel), List.mem_of_getElem? (i := 927) (by decide +kernel), List.mem_of_getElem? (i := 928) (by decide +kernel)⟩
def lw_privs_2 : List (MethodName × Nat) := [(⟨"FortressWatch", "manyWatchedNow", "()I"⟩, 13), (⟨"FortressWatch", "tellBlindAngle", "(III)I"⟩, 13), (⟨"FortressWatch", "manySeenNow", "(I)I"⟩, 13), (⟨"FortressWatch", "tellReaches", "(III)I"⟩, 13), (⟨"FortressWatch", "dropBlindAngle", "(I)I"⟩, 13), (⟨"FortressWatch$Text", "codeHere", "()I"⟩, 7), (⟨"FortressWatch$Text", "takeFirst", "(I)Z"⟩, 7), (⟨"FortressWatch$Text", "takeNumber", "(I)I"⟩, 7), (⟨"FortressWatch$Text", "takeSecond", "(I)Z"⟩, 7), (⟨"FortressWatch$Text", "takeThird", "(I)Z"⟩, 7), (⟨"FortressWatch", "carryOutAll", "()I"⟩, 13), (⟨"FortressWatch", "carryOut", "()I"⟩, 13)]
theorem lw_r2 : ∀ q ∈ lw_privs_2, lw_okq q := List.forall_mem_cons.mpr ⟨lw_p16, List.forall_mem_cons.mpr ⟨lw_p17, List.forall_mem_cons.mpr ⟨lw_p18, List.forall_mem_cons.mpr ⟨lw_p19, List.forall_mem_cons.mpr ⟨lw_p20, List.forall_mem_cons.mpr ⟨lw_p21, List.forall_mem_cons.mpr ⟨lw_p22, List.forall_mem_cons.mpr ⟨lw_p23, List.forall_mem_cons.mpr ⟨lw_p24, List.forall_mem_cons.mpr ⟨lw_p25, List.forall_mem_cons.mpr ⟨lw_p26, List.forall_mem_cons.mpr ⟨lw_p27, fun _ h => absurd h List.not_mem_nil⟩⟩⟩⟩⟩⟩⟩⟩⟩⟩⟩⟩
def lw_privs : List (MethodName × Nat) := lw_privs_1 ++ (lw_privs_2)
def lw_tbl : List Cond := k2_sels lw_privs ++ tables_1
theorem lw_privs_ok : ∀ q ∈ lw_privs, lw_okq q := by
  show ∀ q ∈ lw_privs_1 ++ (lw_privs_2), lw_okq q
  exact List.forall_mem_append.mpr ⟨lw_r1, lw_r2⟩
/-- the streams that the claim lets the run draw from -/
abbrev lw_cs : List Choice := [Jvm.Choice.named "NaN.bits"]
theorem lw_bits : nanBits ∈ lw_cs := by first | decide | exact List.mem_cons_self | simp [lw_cs, nanBits]

def RX0 : String := "FortressWatch$Chooser"
def TX0 : u_T := fun k => match k with
  | 0 => ("FortressWatch$Chooser", "seenBySet", "[I", true)
  | 1 => ("FortressWatch$Chooser", "seers", "[I", true)
  | 2 => ("FortressWatch$Chooser", "best", "I", false)
  | 3 => ("FortressWatch$Chooser", "ways", "I", false)
  | _ => ("FortressWatch$Chooser", "inEach", "I", false)
def tyX0 : Nat → FieldType := fun k => match k with
  | 0 => .array .int
  | 1 => .array .int
  | 2 => .int
  | 3 => .int
  | _ => .int
theorem nmX0 : ∀ a, a < 5 → ∀ b, b < 5 → a ≠ b → (TX0 a).2.1 ≠ (TX0 b).2.1 := by decide +kernel
theorem tyX0_ok : ∀ k, k < 5 → parseFieldDescriptor (TX0 k).2.2.1 = some (tyX0 k) := by decide +kernel
abbrev cX0_init : ByteArray := prog_2_method_1_code
def yX0_init : MethodName := ⟨RX0, "<init>", "()V"⟩
abbrev cX0_trySets : ByteArray := prog_2_method_2_code
def yX0_trySets : MethodName := ⟨RX0, "trySets", "(LFortressWatch$Sights;)V"⟩
abbrev cX0_fillSets : ByteArray := prog_2_method_3_code
def yX0_fillSets : MethodName := ⟨RX0, "fillSets", "(LFortressWatch$Sights;)V"⟩
abbrev cX0_searchStones : ByteArray := prog_2_method_4_code
def yX0_searchStones : MethodName := ⟨RX0, "searchStones", "(LFortressWatch$Sights;)I"⟩
abbrev cX0_search : ByteArray := prog_2_method_5_code
def yX0_search : MethodName := ⟨RX0, "search", "(LFortressWatch$Sights;[IIIII)I"⟩
abbrev cX0_fewestSeers : ByteArray := prog_2_method_6_code
def yX0_fewestSeers : MethodName := ⟨RX0, "fewestSeers", "([II)I"⟩
abbrev cX0_better : ByteArray := prog_2_method_7_code
def yX0_better : MethodName := ⟨RX0, "better", "(II)I"⟩
def RX1 : String := "FortressWatch$Gaps"
def TX1 : u_T := fun k => match k with
  | 0 => ("FortressWatch$Gaps", "first", "[I", true)
  | 1 => ("FortressWatch$Gaps", "length", "[I", true)
  | _ => ("FortressWatch$Gaps", "many", "I", false)
def tyX1 : Nat → FieldType := fun k => match k with
  | 0 => .array .int
  | 1 => .array .int
  | _ => .int
theorem nmX1 : ∀ a, a < 3 → ∀ b, b < 3 → a ≠ b → (TX1 a).2.1 ≠ (TX1 b).2.1 := by decide +kernel
theorem tyX1_ok : ∀ k, k < 3 → parseFieldDescriptor (TX1 k).2.2.1 = some (tyX1 k) := by decide +kernel
abbrev cX1_init : ByteArray := prog_3_method_1_code
def yX1_init : MethodName := ⟨RX1, "<init>", "()V"⟩
abbrev cX1_find : ByteArray := prog_3_method_2_code
def yX1_find : MethodName := ⟨RX1, "find", "(I)V"⟩
abbrev cX1_openFrom : ByteArray := prog_3_method_3_code
def yX1_openFrom : MethodName := ⟨RX1, "openFrom", "(II)I"⟩
abbrev cX1_add : ByteArray := prog_3_method_4_code
def yX1_add : MethodName := ⟨RX1, "add", "(II)V"⟩
abbrev cX1_isGap : ByteArray := prog_3_method_5_code
def yX1_isGap : MethodName := ⟨RX1, "isGap", "(I)Z"⟩
abbrev cX1_firstOf : ByteArray := prog_3_method_6_code
def yX1_firstOf : MethodName := ⟨RX1, "firstOf", "(I)I"⟩
abbrev cX1_lengthOf : ByteArray := prog_3_method_7_code
def yX1_lengthOf : MethodName := ⟨RX1, "lengthOf", "(I)I"⟩
abbrev cX1_lengthOfAll : ByteArray := prog_3_method_8_code
def yX1_lengthOfAll : MethodName := ⟨RX1, "lengthOfAll", "()I"⟩
abbrev cX1_longest : ByteArray := prog_3_method_9_code
def yX1_longest : MethodName := ⟨RX1, "longest", "()I"⟩
def RX2 : String := "FortressWatch$Line"
def TX2 : u_T := fun k => match k with
  | 0 => ("FortressWatch$Line", "codes", "[I", true)
  | _ => ("FortressWatch$Line", "length", "I", false)
def tyX2 : Nat → FieldType := fun k => match k with
  | 0 => .array .int
  | _ => .int
theorem nmX2 : ∀ a, a < 2 → ∀ b, b < 2 → a ≠ b → (TX2 a).2.1 ≠ (TX2 b).2.1 := by decide +kernel
theorem tyX2_ok : ∀ k, k < 2 → parseFieldDescriptor (TX2 k).2.2.1 = some (tyX2 k) := by decide +kernel
abbrev cX2_init : ByteArray := prog_4_method_1_code
def yX2_init : MethodName := ⟨RX2, "<init>", "()V"⟩
def RX3 : String := "FortressWatch$Order"
def TX3 : u_T := fun k => match k with
  | _ => ("FortressWatch$Order", "key", "[I", true)
def tyX3 : Nat → FieldType := fun k => match k with
  | _ => .array .int
theorem nmX3 : ∀ a, a < 1 → ∀ b, b < 1 → a ≠ b → (TX3 a).2.1 ≠ (TX3 b).2.1 := by decide +kernel
theorem tyX3_ok : ∀ k, k < 1 → parseFieldDescriptor (TX3 k).2.2.1 = some (tyX3 k) := by decide +kernel
abbrev cX3_init : ByteArray := prog_5_method_1_code
def yX3_init : MethodName := ⟨RX3, "<init>", "()V"⟩
abbrev cX3_giveKey : ByteArray := prog_5_method_2_code
def yX3_giveKey : MethodName := ⟨RX3, "giveKey", "(II)V"⟩
abbrev cX3_at : ByteArray := prog_5_method_3_code
def yX3_at : MethodName := ⟨RX3, "at", "(II)I"⟩
abbrev cX3_placeOf : ByteArray := prog_5_method_4_code
def yX3_placeOf : MethodName := ⟨RX3, "placeOf", "(II)I"⟩
def RX4 : String := "FortressWatch$Past"
def TX4 : u_T := fun k => match k with
  | 0 => ("FortressWatch$Past", "walls", "[LFortressWatch$Wall;", true)
  | 1 => ("FortressWatch$Past", "top", "I", false)
  | _ => ("FortressWatch$Past", "many", "I", false)
def tyX4 : Nat → FieldType := fun k => match k with
  | 0 => .array (.object "FortressWatch$Wall")
  | 1 => .int
  | _ => .int
theorem nmX4 : ∀ a, a < 3 → ∀ b, b < 3 → a ≠ b → (TX4 a).2.1 ≠ (TX4 b).2.1 := by decide +kernel
theorem tyX4_ok : ∀ k, k < 3 → parseFieldDescriptor (TX4 k).2.2.1 = some (tyX4 k) := by decide +kernel
abbrev cX4_init : ByteArray := prog_6_method_1_code
def yX4_init : MethodName := ⟨RX4, "<init>", "()V"⟩
abbrev cX4_keep : ByteArray := prog_6_method_2_code
def yX4_keep : MethodName := ⟨RX4, "keep", "(LFortressWatch$Wall;)V"⟩
abbrev cX4_takeBack : ByteArray := prog_6_method_3_code
def yX4_takeBack : MethodName := ⟨RX4, "takeBack", "(LFortressWatch$Wall;)V"⟩
abbrev cX4_forget : ByteArray := prog_6_method_4_code
def yX4_forget : MethodName := ⟨RX4, "forget", "()V"⟩
def RX5 : String := "FortressWatch$Refused"
def TX5 : u_T := fun k => match k with
  | 0 => ("FortressWatch$Refused", "reason", "I", false)
  | 1 => ("FortressWatch$Refused", "detail", "I", false)
  | _ => ("FortressWatch$Refused", "command", "I", false)
def tyX5 : Nat → FieldType := fun k => match k with
  | 0 => .int
  | 1 => .int
  | _ => .int
theorem nmX5 : ∀ a, a < 3 → ∀ b, b < 3 → a ≠ b → (TX5 a).2.1 ≠ (TX5 b).2.1 := by decide +kernel
theorem tyX5_ok : ∀ k, k < 3 → parseFieldDescriptor (TX5 k).2.2.1 = some (tyX5 k) := by decide +kernel
abbrev cX5_init : ByteArray := prog_7_method_1_code
def yX5_init : MethodName := ⟨RX5, "<init>", "()V"⟩
abbrev cX5_tell : ByteArray := prog_7_method_2_code
def yX5_tell : MethodName := ⟨RX5, "tell", "(III)V"⟩
def RX6 : String := "FortressWatch$Sights"
def TX6 : u_T := fun k => match k with
  | 0 => ("FortressWatch$Sights", "row", "[I", true)
  | 1 => ("FortressWatch$Sights", "posts", "I", false)
  | _ => ("FortressWatch$Sights", "manned", "I", false)
def tyX6 : Nat → FieldType := fun k => match k with
  | 0 => .array .int
  | 1 => .int
  | _ => .int
theorem nmX6 : ∀ a, a < 3 → ∀ b, b < 3 → a ≠ b → (TX6 a).2.1 ≠ (TX6 b).2.1 := by decide +kernel
theorem tyX6_ok : ∀ k, k < 3 → parseFieldDescriptor (TX6 k).2.2.1 = some (tyX6 k) := by decide +kernel
abbrev cX6_init : ByteArray := prog_8_method_1_code
def yX6_init : MethodName := ⟨RX6, "<init>", "()V"⟩
abbrev cX6_lookAt : ByteArray := prog_8_method_2_code
def yX6_lookAt : MethodName := ⟨RX6, "lookAt", "(LFortressWatch$Wall;I)V"⟩
abbrev cX6_of : ByteArray := prog_8_method_3_code
def yX6_of : MethodName := ⟨RX6, "of", "(I)I"⟩
abbrev cX6_manySeen : ByteArray := prog_8_method_4_code
def yX6_manySeen : MethodName := ⟨RX6, "manySeen", "(I)I"⟩
abbrev cX6_manySeenAlone : ByteArray := prog_8_method_5_code
def yX6_manySeenAlone : MethodName := ⟨RX6, "manySeenAlone", "(I)I"⟩
abbrev cX6_seenBySet : ByteArray := prog_8_method_6_code
def yX6_seenBySet : MethodName := ⟨RX6, "seenBySet", "(I)I"⟩
abbrev cX6_seersOf : ByteArray := prog_8_method_7_code
def yX6_seersOf : MethodName := ⟨RX6, "seersOf", "(I)I"⟩
abbrev cX6_overlaps : ByteArray := prog_8_method_8_code
def yX6_overlaps : MethodName := ⟨RX6, "overlaps", "()I"⟩
abbrev cX6_bestAmong : ByteArray := prog_8_method_9_code
def yX6_bestAmong : MethodName := ⟨RX6, "bestAmong", "(II)I"⟩
def RX7 : String := "FortressWatch$Text"
def TX7 : u_T := fun k => match k with
  | 0 => ("FortressWatch$Text", "codes", "[I", true)
  | 1 => ("FortressWatch$Text", "at", "I", false)
  | 2 => ("FortressWatch$Text", "length", "I", false)
  | 3 => ("FortressWatch$Text", "letter", "I", false)
  | 4 => ("FortressWatch$Text", "first", "I", false)
  | 5 => ("FortressWatch$Text", "second", "I", false)
  | _ => ("FortressWatch$Text", "third", "I", false)
def tyX7 : Nat → FieldType := fun k => match k with
  | 0 => .array .int
  | 1 => .int
  | 2 => .int
  | 3 => .int
  | 4 => .int
  | 5 => .int
  | _ => .int
theorem nmX7 : ∀ a, a < 7 → ∀ b, b < 7 → a ≠ b → (TX7 a).2.1 ≠ (TX7 b).2.1 := by decide +kernel
theorem tyX7_ok : ∀ k, k < 7 → parseFieldDescriptor (TX7 k).2.2.1 = some (tyX7 k) := by decide +kernel
abbrev cX7_init : ByteArray := prog_9_method_1_code
def yX7_init : MethodName := ⟨RX7, "<init>", "()V"⟩
abbrev cX7_put : ByteArray := prog_9_method_2_code
def yX7_put : MethodName := ⟨RX7, "put", "(I)I"⟩
abbrev cX7_clear : ByteArray := prog_9_method_3_code
def yX7_clear : MethodName := ⟨RX7, "clear", "()V"⟩
abbrev cX7_rewind : ByteArray := prog_9_method_4_code
def yX7_rewind : MethodName := ⟨RX7, "rewind", "()V"⟩
abbrev cX7_findFault : ByteArray := prog_9_method_5_code
def yX7_findFault : MethodName := ⟨RX7, "findFault", "()I"⟩
abbrev cX7_takeCommand : ByteArray := prog_9_method_6_code
def yX7_takeCommand : MethodName := ⟨RX7, "takeCommand", "()Z"⟩
abbrev cX7_skip : ByteArray := prog_9_method_7_code
def yX7_skip : MethodName := ⟨RX7, "skip", "(I)Z"⟩
abbrev cX7_takeFirst : ByteArray := prog_9_method_8_code
def yX7_takeFirst : MethodName := ⟨RX7, "takeFirst", "(I)Z"⟩
abbrev cX7_takeSecond : ByteArray := prog_9_method_9_code
def yX7_takeSecond : MethodName := ⟨RX7, "takeSecond", "(I)Z"⟩
abbrev cX7_takeThird : ByteArray := prog_9_method_10_code
def yX7_takeThird : MethodName := ⟨RX7, "takeThird", "(I)Z"⟩
abbrev cX7_takeNumber : ByteArray := prog_9_method_11_code
def yX7_takeNumber : MethodName := ⟨RX7, "takeNumber", "(I)I"⟩
abbrev cX7_codeHere : ByteArray := prog_9_method_12_code
def yX7_codeHere : MethodName := ⟨RX7, "codeHere", "()I"⟩
def RX8 : String := "FortressWatch$Wall"
def TX8 : u_T := fun k => match k with
  | 0 => ("FortressWatch$Wall", "stone", "[I", true)
  | 1 => ("FortressWatch$Wall", "left", "[I", true)
  | 2 => ("FortressWatch$Wall", "right", "[I", true)
  | 3 => ("FortressWatch$Wall", "blindFrom", "[I", true)
  | 4 => ("FortressWatch$Wall", "blindMany", "[I", true)
  | 5 => ("FortressWatch$Wall", "manned", "[I", true)
  | 6 => ("FortressWatch$Wall", "posts", "I", false)
  | 7 => ("FortressWatch$Wall", "hour", "I", false)
  | 8 => ("FortressWatch$Wall", "built", "I", false)
  | 9 => ("FortressWatch$Wall", "torn", "I", false)
  | _ => ("FortressWatch$Wall", "timesManned", "I", false)
def tyX8 : Nat → FieldType := fun k => match k with
  | 0 => .array .int
  | 1 => .array .int
  | 2 => .array .int
  | 3 => .array .int
  | 4 => .array .int
  | 5 => .array .int
  | 6 => .int
  | 7 => .int
  | 8 => .int
  | 9 => .int
  | _ => .int
theorem nmX8 : ∀ a, a < 11 → ∀ b, b < 11 → a ≠ b → (TX8 a).2.1 ≠ (TX8 b).2.1 := by decide +kernel
theorem tyX8_ok : ∀ k, k < 11 → parseFieldDescriptor (TX8 k).2.2.1 = some (tyX8 k) := by decide +kernel
abbrev cX8_init : ByteArray := prog_10_method_1_code
def yX8_init : MethodName := ⟨RX8, "<init>", "()V"⟩
abbrev cX8_copyFrom : ByteArray := prog_10_method_2_code
def yX8_copyFrom : MethodName := ⟨RX8, "copyFrom", "(LFortressWatch$Wall;)V"⟩
abbrev cX8_isPost : ByteArray := prog_10_method_3_code
def yX8_isPost : MethodName := ⟨RX8, "isPost", "(I)Z"⟩
abbrev cX8_postOn : ByteArray := prog_10_method_4_code
def yX8_postOn : MethodName := ⟨RX8, "postOn", "(I)I"⟩
abbrev cX8_add : ByteArray := prog_10_method_5_code
def yX8_add : MethodName := ⟨RX8, "add", "(III)I"⟩
abbrev cX8_remove : ByteArray := prog_10_method_6_code
def yX8_remove : MethodName := ⟨RX8, "remove", "(I)V"⟩
abbrev cX8_manJust : ByteArray := prog_10_method_7_code
def yX8_manJust : MethodName := ⟨RX8, "manJust", "(I)V"⟩
abbrev cX8_numberOf : ByteArray := prog_10_method_8_code
def yX8_numberOf : MethodName := ⟨RX8, "numberOf", "(II)I"⟩
abbrev cX8_accountOf : ByteArray := prog_10_method_9_code
def yX8_accountOf : MethodName := ⟨RX8, "accountOf", "(I)I"⟩
abbrev cX8_sightOf : ByteArray := prog_10_method_10_code
def yX8_sightOf : MethodName := ⟨RX8, "sightOf", "(II)I"⟩
abbrev cX8_lostByLight : ByteArray := prog_10_method_11_code
def yX8_lostByLight : MethodName := ⟨RX8, "lostByLight", "(I)I"⟩
abbrev cX8_copyPlace : ByteArray := prog_10_method_12_code
def yX8_copyPlace : MethodName := ⟨RX8, "copyPlace", "(LFortressWatch$Wall;II)V"⟩
abbrev cX8_empty : ByteArray := prog_10_method_13_code
def yX8_empty : MethodName := ⟨RX8, "empty", "(I)V"⟩
def RX9 : String := "FortressWatch"
def TX9 : u_T := fun k => match k with
  | 0 => ("FortressWatch", "wall", "LFortressWatch$Wall;", true)
  | 1 => ("FortressWatch", "before", "LFortressWatch$Wall;", true)
  | 2 => ("FortressWatch", "snapshot", "LFortressWatch$Wall;", true)
  | 3 => ("FortressWatch", "past", "LFortressWatch$Past;", true)
  | 4 => ("FortressWatch", "sights", "LFortressWatch$Sights;", true)
  | 5 => ("FortressWatch", "chooser", "LFortressWatch$Chooser;", true)
  | 6 => ("FortressWatch", "gaps", "LFortressWatch$Gaps;", true)
  | 7 => ("FortressWatch", "order", "LFortressWatch$Order;", true)
  | 8 => ("FortressWatch", "text", "LFortressWatch$Text;", true)
  | 9 => ("FortressWatch", "line", "LFortressWatch$Line;", true)
  | 10 => ("FortressWatch", "refused", "LFortressWatch$Refused;", true)
  | 11 => ("FortressWatch", "hasSnapshot", "Z", false)
  | _ => ("FortressWatch", "commandNow", "I", false)
def tyX9 : Nat → FieldType := fun k => match k with
  | 0 => .object "FortressWatch$Wall"
  | 1 => .object "FortressWatch$Wall"
  | 2 => .object "FortressWatch$Wall"
  | 3 => .object "FortressWatch$Past"
  | 4 => .object "FortressWatch$Sights"
  | 5 => .object "FortressWatch$Chooser"
  | 6 => .object "FortressWatch$Gaps"
  | 7 => .object "FortressWatch$Order"
  | 8 => .object "FortressWatch$Text"
  | 9 => .object "FortressWatch$Line"
  | 10 => .object "FortressWatch$Refused"
  | 11 => .boolean
  | _ => .int
theorem nmX9 : ∀ a, a < 13 → ∀ b, b < 13 → a ≠ b → (TX9 a).2.1 ≠ (TX9 b).2.1 := by decide +kernel
theorem tyX9_ok : ∀ k, k < 13 → parseFieldDescriptor (TX9 k).2.2.1 = some (tyX9 k) := by decide +kernel
abbrev cX9_init : ByteArray := prog_1_method_1_code
def yX9_init : MethodName := ⟨RX9, "<init>", "()V"⟩
abbrev cX9_post : ByteArray := prog_1_method_2_code
def yX9_post : MethodName := ⟨RX9, "post", "(III)I"⟩
abbrev cX9_tear : ByteArray := prog_1_method_3_code
def yX9_tear : MethodName := ⟨RX9, "tear", "(I)I"⟩
abbrev cX9_reach : ByteArray := prog_1_method_4_code
def yX9_reach : MethodName := ⟨RX9, "reach", "(III)I"⟩
abbrev cX9_blind : ByteArray := prog_1_method_5_code
def yX9_blind : MethodName := ⟨RX9, "blind", "(III)I"⟩
abbrev cX9_see : ByteArray := prog_1_method_6_code
def yX9_see : MethodName := ⟨RX9, "see", "(I)I"⟩
abbrev cX9_man : ByteArray := prog_1_method_7_code
def yX9_man : MethodName := ⟨RX9, "man", "(II)I"⟩
abbrev cX9_hour : ByteArray := prog_1_method_8_code
def yX9_hour : MethodName := ⟨RX9, "hour", "(I)I"⟩
abbrev cX9_watch : ByteArray := prog_1_method_9_code
def yX9_watch : MethodName := ⟨RX9, "watch", "()I"⟩
abbrev cX9_postOf : ByteArray := prog_1_method_10_code
def yX9_postOf : MethodName := ⟨RX9, "postOf", "(II)I"⟩
abbrev cX9_sees : ByteArray := prog_1_method_11_code
def yX9_sees : MethodName := ⟨RX9, "sees", "(II)I"⟩
abbrev cX9_watched : ByteArray := prog_1_method_12_code
def yX9_watched : MethodName := ⟨RX9, "watched", "(I)I"⟩
abbrev cX9_seenBy : ByteArray := prog_1_method_13_code
def yX9_seenBy : MethodName := ⟨RX9, "seenBy", "(I)I"⟩
abbrev cX9_gapOf : ByteArray := prog_1_method_14_code
def yX9_gapOf : MethodName := ⟨RX9, "gapOf", "(II)I"⟩
abbrev cX9_fewest : ByteArray := prog_1_method_15_code
def yX9_fewest : MethodName := ⟨RX9, "fewest", "()I"⟩
abbrev cX9_fewestAgain : ByteArray := prog_1_method_16_code
def yX9_fewestAgain : MethodName := ⟨RX9, "fewestAgain", "()I"⟩
abbrev cX9_watches : ByteArray := prog_1_method_17_code
def yX9_watches : MethodName := ⟨RX9, "watches", "()I"⟩
abbrev cX9_isFull : ByteArray := prog_1_method_18_code
def yX9_isFull : MethodName := ⟨RX9, "isFull", "(I)I"⟩
abbrev cX9_spare : ByteArray := prog_1_method_19_code
def yX9_spare : MethodName := ⟨RX9, "spare", "()I"⟩
abbrev cX9_next : ByteArray := prog_1_method_20_code
def yX9_next : MethodName := ⟨RX9, "next", "()I"⟩
abbrev cX9_greedy : ByteArray := prog_1_method_21_code
def yX9_greedy : MethodName := ⟨RX9, "greedy", "()I"⟩
abbrev cX9_wouldNeed : ByteArray := prog_1_method_22_code
def yX9_wouldNeed : MethodName := ⟨RX9, "wouldNeed", "(I)I"⟩
abbrev cX9_wouldTurn : ByteArray := prog_1_method_23_code
def yX9_wouldTurn : MethodName := ⟨RX9, "wouldTurn", "(I)I"⟩
abbrev cX9_ranked : ByteArray := prog_1_method_24_code
def yX9_ranked : MethodName := ⟨RX9, "ranked", "(II)I"⟩
abbrev cX9_append : ByteArray := prog_1_method_28_code
def yX9_append : MethodName := ⟨RX9, "append", "(I)I"⟩
abbrev cX9_read : ByteArray := prog_1_method_29_code
def yX9_read : MethodName := ⟨RX9, "read", "()I"⟩
abbrev cX9_account : ByteArray := prog_1_method_31_code
def yX9_account : MethodName := ⟨RX9, "account", "(I)I"⟩
abbrev cX9_isWell : ByteArray := prog_1_method_32_code
def yX9_isWell : MethodName := ⟨RX9, "isWell", "()I"⟩
abbrev cX9_mean : ByteArray := prog_1_method_33_code
def yX9_mean : MethodName := ⟨RX9, "mean", "()I"⟩
abbrev cX9_undo : ByteArray := prog_1_method_34_code
def yX9_undo : MethodName := ⟨RX9, "undo", "()I"⟩
abbrev cX9_save : ByteArray := prog_1_method_35_code
def yX9_save : MethodName := ⟨RX9, "save", "()I"⟩
abbrev cX9_restore : ByteArray := prog_1_method_36_code
def yX9_restore : MethodName := ⟨RX9, "restore", "()I"⟩
abbrev cX9_kept : ByteArray := prog_1_method_37_code
def yX9_kept : MethodName := ⟨RX9, "kept", "(I)I"⟩
abbrev cX9_refuse : ByteArray := prog_1_method_38_code
def yX9_refuse : MethodName := ⟨RX9, "refuse", "(II)I"⟩
abbrev cX9_buildPost : ByteArray := prog_1_method_39_code
def yX9_buildPost : MethodName := ⟨RX9, "buildPost", "(III)I"⟩
abbrev cX9_tearDown : ByteArray := prog_1_method_40_code
def yX9_tearDown : MethodName := ⟨RX9, "tearDown", "(I)I"⟩
abbrev cX9_tellReaches : ByteArray := prog_1_method_41_code
def yX9_tellReaches : MethodName := ⟨RX9, "tellReaches", "(III)I"⟩
abbrev cX9_tellBlindAngle : ByteArray := prog_1_method_42_code
def yX9_tellBlindAngle : MethodName := ⟨RX9, "tellBlindAngle", "(III)I"⟩
abbrev cX9_dropBlindAngle : ByteArray := prog_1_method_43_code
def yX9_dropBlindAngle : MethodName := ⟨RX9, "dropBlindAngle", "(I)I"⟩
abbrev cX9_letBeManned : ByteArray := prog_1_method_44_code
def yX9_letBeManned : MethodName := ⟨RX9, "letBeManned", "(II)I"⟩
abbrev cX9_tellHour : ByteArray := prog_1_method_45_code
def yX9_tellHour : MethodName := ⟨RX9, "tellHour", "(I)I"⟩
abbrev cX9_manFewest : ByteArray := prog_1_method_46_code
def yX9_manFewest : MethodName := ⟨RX9, "manFewest", "()I"⟩
abbrev cX9_carryOutAll : ByteArray := prog_1_method_47_code
def yX9_carryOutAll : MethodName := ⟨RX9, "carryOutAll", "()I"⟩
abbrev cX9_carryOut : ByteArray := prog_1_method_48_code
def yX9_carryOut : MethodName := ⟨RX9, "carryOut", "()I"⟩
abbrev cX9_manySeenNow : ByteArray := prog_1_method_49_code
def yX9_manySeenNow : MethodName := ⟨RX9, "manySeenNow", "(I)I"⟩
abbrev cX9_manyWatchedNow : ByteArray := prog_1_method_50_code
def yX9_manyWatchedNow : MethodName := ⟨RX9, "manyWatchedNow", "()I"⟩
abbrev cX9_manyUnseen : ByteArray := prog_1_method_51_code
def yX9_manyUnseen : MethodName := ⟨RX9, "manyUnseen", "()I"⟩
abbrev cX9_closingMost : ByteArray := prog_1_method_52_code
def yX9_closingMost : MethodName := ⟨RX9, "closingMost", "(I)I"⟩
abbrev cX9_keyOf : ByteArray := prog_1_method_53_code
def yX9_keyOf : MethodName := ⟨RX9, "keyOf", "(II)I"⟩
abbrev cX9_sightAccount : ByteArray := prog_1_method_54_code
def yX9_sightAccount : MethodName := ⟨RX9, "sightAccount", "(I)I"⟩
abbrev cX9_isStone : ByteArray := prog_1_method_57_code
def yX9_isStone : MethodName := ⟨RX9, "isStone", "(I)Z"⟩
abbrev cX9_isReach : ByteArray := prog_1_method_58_code
def yX9_isReach : MethodName := ⟨RX9, "isReach", "(I)Z"⟩
abbrev cX9_isHour : ByteArray := prog_1_method_59_code
def yX9_isHour : MethodName := ⟨RX9, "isHour", "(I)Z"⟩
abbrev cX9_isIn : ByteArray := prog_1_method_60_code
def yX9_isIn : MethodName := ⟨RX9, "isIn", "(II)Z"⟩
abbrev cX9_turned : ByteArray := prog_1_method_61_code
def yX9_turned : MethodName := ⟨RX9, "turned", "(II)I"⟩
abbrev cX9_stretch : ByteArray := prog_1_method_62_code
def yX9_stretch : MethodName := ⟨RX9, "stretch", "(II)I"⟩
abbrev cX9_bitsOf : ByteArray := prog_1_method_63_code
def yX9_bitsOf : MethodName := ⟨RX9, "bitsOf", "(F)I"⟩
def RX10 : String := "FortressWatchModel"
def TX10 : u_T := fun k => match k with
  | _ => ("", "", "", false)
def tyX10 : Nat → FieldType := fun k => match k with
  | _ => .int
theorem nmX10 : ∀ a, a < 0 → ∀ b, b < 0 → a ≠ b → (TX10 a).2.1 ≠ (TX10 b).2.1 := by decide +kernel
theorem tyX10_ok : ∀ k, k < 0 → parseFieldDescriptor (TX10 k).2.2.1 = some (tyX10 k) := by decide +kernel
def RJ5 : String := "java/lang/AbstractStringBuilder"
def TJ5 : u_T := fun k => match k with
  | _ => ("", "", "", false)
def tyJ5 : Nat → FieldType := fun k => match k with
  | _ => .int
theorem nmJ5 : ∀ a, a < 0 → ∀ b, b < 0 → a ≠ b → (TJ5 a).2.1 ≠ (TJ5 b).2.1 := by decide +kernel
theorem tyJ5_ok : ∀ k, k < 0 → parseFieldDescriptor (TJ5 k).2.2.1 = some (tyJ5 k) := by decide +kernel
abbrev cJ5_init_d00df : ByteArray := prog_13_method_2_code
def yJ5_init_d00df : MethodName := ⟨RJ5, "<init>", "(I)V"⟩
abbrev cJ5_length_8abf5 : ByteArray := prog_13_method_6_code
def yJ5_length_8abf5 : MethodName := ⟨RJ5, "length", "()I"⟩
abbrev cJ5_ensureCapacityInternal_d00df : ByteArray := prog_13_method_9_code
def yJ5_ensureCapacityInternal_d00df : MethodName := ⟨RJ5, "ensureCapacityInternal", "(I)V"⟩
abbrev cJ5_newCapacity_0f7a4 : ByteArray := prog_13_method_10_code
def yJ5_newCapacity_0f7a4 : MethodName := ⟨RJ5, "newCapacity", "(I)I"⟩
abbrev cJ5_inflate_da8c8 : ByteArray := prog_13_method_11_code
def yJ5_inflate_da8c8 : MethodName := ⟨RJ5, "inflate", "()V"⟩
abbrev cJ5_append_cf1ce : ByteArray := prog_13_method_22_code
def yJ5_append_cf1ce : MethodName := ⟨RJ5, "append", "(Ljava/lang/String;)Ljava/lang/AbstractStringBuilder;"⟩
abbrev cJ5_appendNull_278bc : ByteArray := prog_13_method_26_code
def yJ5_appendNull_278bc : MethodName := ⟨RJ5, "appendNull", "()Ljava/lang/AbstractStringBuilder;"⟩
abbrev cJ5_append_c97b9 : ByteArray := prog_13_method_32_code
def yJ5_append_c97b9 : MethodName := ⟨RJ5, "append", "(I)Ljava/lang/AbstractStringBuilder;"⟩
abbrev cJ5_getValue_6d5f1 : ByteArray := prog_13_method_64_code
def yJ5_getValue_6d5f1 : MethodName := ⟨RJ5, "getValue", "()[B"⟩
abbrev cJ5_isLatin1_aae02 : ByteArray := prog_13_method_68_code
def yJ5_isLatin1_aae02 : MethodName := ⟨RJ5, "isLatin1", "()Z"⟩
abbrev cJ5_inflateIfNeededFor_a7421 : ByteArray := prog_13_method_71_code
def yJ5_inflateIfNeededFor_a7421 : MethodName := ⟨RJ5, "inflateIfNeededFor", "(Ljava/lang/String;)V"⟩
abbrev cJ5_putStringAt_47b60 : ByteArray := prog_13_method_73_code
def yJ5_putStringAt_47b60 : MethodName := ⟨RJ5, "putStringAt", "(ILjava/lang/String;)V"⟩
def RJx8e188 : String := "java/lang/Cloneable"
def TJx8e188 : u_T := fun k => match k with
  | _ => ("", "", "", false)
def tyJx8e188 : Nat → FieldType := fun k => match k with
  | _ => .int
theorem nmJx8e188 : ∀ a, a < 0 → ∀ b, b < 0 → a ≠ b → (TJx8e188 a).2.1 ≠ (TJx8e188 b).2.1 := by decide +kernel
theorem tyJx8e188_ok : ∀ k, k < 0 → parseFieldDescriptor (TJx8e188 k).2.2.1 = some (tyJx8e188 k) := by decide +kernel
def RJxf58ca : String := "java/lang/Float"
def TJxf58ca : u_T := fun k => match k with
  | _ => ("", "", "", false)
def tyJxf58ca : Nat → FieldType := fun k => match k with
  | _ => .int
theorem nmJxf58ca : ∀ a, a < 0 → ∀ b, b < 0 → a ≠ b → (TJxf58ca a).2.1 ≠ (TJxf58ca b).2.1 := by decide +kernel
theorem tyJxf58ca_ok : ∀ k, k < 0 → parseFieldDescriptor (TJxf58ca k).2.2.1 = some (tyJxf58ca k) := by decide +kernel
abbrev cJxf58ca_isNaN_12338 : ByteArray := prog_15_method_6_code
def yJxf58ca_isNaN_12338 : MethodName := ⟨RJxf58ca, "isNaN", "(F)Z"⟩
abbrev cJxf58ca_floatToIntBits_5c35a : ByteArray := prog_15_method_24_code
def yJxf58ca_floatToIntBits_5c35a : MethodName := ⟨RJxf58ca, "floatToIntBits", "(F)I"⟩
def RJ6 : String := "java/lang/Integer"
def TJ6 : u_T := fun k => match k with
  | _ => ("", "", "", false)
def tyJ6 : Nat → FieldType := fun k => match k with
  | _ => .int
theorem nmJ6 : ∀ a, a < 0 → ∀ b, b < 0 → a ≠ b → (TJ6 a).2.1 ≠ (TJ6 b).2.1 := by decide +kernel
theorem tyJ6_ok : ∀ k, k < 0 → parseFieldDescriptor (TJ6 k).2.2.1 = some (tyJ6 k) := by decide +kernel
abbrev cJ6_getChars_ba4f3 : ByteArray := prog_16_method_12_code
def yJ6_getChars_ba4f3 : MethodName := ⟨RJ6, "getChars", "(II[B)I"⟩
abbrev cJ6_stringSize_0f7a4 : ByteArray := prog_16_method_13_code
def yJ6_stringSize_0f7a4 : MethodName := ⟨RJ6, "stringSize", "(I)I"⟩
abbrev cJ6_bitCount_0f7a4 : ByteArray := prog_16_method_49_code
def yJ6_bitCount_0f7a4 : MethodName := ⟨RJ6, "bitCount", "(I)I"⟩
def RJ9 : String := "java/lang/Math"
def TJ9 : u_T := fun k => match k with
  | _ => ("", "", "", false)
def tyJ9 : Nat → FieldType := fun k => match k with
  | _ => .int
theorem nmJ9 : ∀ a, a < 0 → ∀ b, b < 0 → a ≠ b → (TJ9 a).2.1 ≠ (TJ9 b).2.1 := by decide +kernel
theorem tyJ9_ok : ∀ k, k < 0 → parseFieldDescriptor (TJ9 k).2.2.1 = some (tyJ9 k) := by decide +kernel
abbrev cJ9_max_7cf53 : ByteArray := prog_17_method_65_code
def yJ9_max_7cf53 : MethodName := ⟨RJ9, "max", "(II)I"⟩
abbrev cJ9_min_7cf53 : ByteArray := prog_17_method_69_code
def yJ9_min_7cf53 : MethodName := ⟨RJ9, "min", "(II)I"⟩
def RJ0 : String := "java/lang/String"
def TJ0 : u_T := fun k => match k with
  | 0 => ("java/lang/String", "value", "[B", true)
  | 1 => ("java/lang/String", "coder", "B", true)
  | 2 => ("java/lang/String", "hash", "I", false)
  | _ => ("java/lang/String", "hashIsZero", "Z", false)
def tyJ0 : Nat → FieldType := fun k => match k with
  | 0 => .array .byte
  | 1 => .byte
  | 2 => .int
  | _ => .boolean
theorem nmJ0 : ∀ a, a < 4 → ∀ b, b < 4 → a ≠ b → (TJ0 a).2.1 ≠ (TJ0 b).2.1 := by decide +kernel
theorem tyJ0_ok : ∀ k, k < 4 → parseFieldDescriptor (TJ0 k).2.2.1 = some (tyJ0 k) := by decide +kernel
abbrev cJ0_init_81219 : ByteArray := prog_18_method_53_code
def yJ0_init_81219 : MethodName := ⟨RJ0, "<init>", "(Ljava/lang/StringBuilder;)V"⟩
abbrev cJ0_length_8abf5 : ByteArray := prog_18_method_54_code
def yJ0_length_8abf5 : MethodName := ⟨RJ0, "length", "()I"⟩
abbrev cJ0_charAt_5068e : ByteArray := prog_18_method_56_code
def yJ0_charAt_5068e : MethodName := ⟨RJ0, "charAt", "(I)C"⟩
abbrev cJ0_getBytes_840e7 : ByteArray := prog_18_method_147_code
def yJ0_getBytes_840e7 : MethodName := ⟨RJ0, "getBytes", "([BIB)V"⟩
abbrev cJ0_init_db425 : ByteArray := prog_18_method_150_code
def yJ0_init_db425 : MethodName := ⟨RJ0, "<init>", "(Ljava/lang/AbstractStringBuilder;Ljava/lang/Void;)V"⟩
abbrev cJ0_coder_7d493 : ByteArray := prog_18_method_152_code
def yJ0_coder_7d493 : MethodName := ⟨RJ0, "coder", "()B"⟩
abbrev cJ0_isLatin1_aae02 : ByteArray := prog_18_method_154_code
def yJ0_isLatin1_aae02 : MethodName := ⟨RJ0, "isLatin1", "()Z"⟩
abbrev cJ0_checkIndex_df160 : ByteArray := prog_18_method_155_code
def yJ0_checkIndex_df160 : MethodName := ⟨RJ0, "checkIndex", "(II)V"⟩
abbrev cJ0_checkBoundsOffCount_cabcc : ByteArray := prog_18_method_157_code
def yJ0_checkBoundsOffCount_cabcc : MethodName := ⟨RJ0, "checkBoundsOffCount", "(III)I"⟩
abbrev cJ0_checkBoundsBeginEnd_23922 : ByteArray := prog_18_method_158_code
def yJ0_checkBoundsBeginEnd_23922 : MethodName := ⟨RJ0, "checkBoundsBeginEnd", "(III)V"⟩
def RJ4 : String := "java/lang/StringBuilder"
def TJ4 : u_T := fun k => match k with
  | 0 => ("java/lang/AbstractStringBuilder", "value", "[B", false)
  | 1 => ("java/lang/AbstractStringBuilder", "coder", "B", false)
  | 2 => ("java/lang/AbstractStringBuilder", "maybeLatin1", "Z", false)
  | _ => ("java/lang/AbstractStringBuilder", "count", "I", false)
def tyJ4 : Nat → FieldType := fun k => match k with
  | 0 => .array .byte
  | 1 => .byte
  | 2 => .boolean
  | _ => .int
theorem nmJ4 : ∀ a, a < 4 → ∀ b, b < 4 → a ≠ b → (TJ4 a).2.1 ≠ (TJ4 b).2.1 := by decide +kernel
theorem tyJ4_ok : ∀ k, k < 4 → parseFieldDescriptor (TJ4 k).2.2.1 = some (tyJ4 k) := by decide +kernel
abbrev cJ4_init_da8c8 : ByteArray := prog_19_method_1_code
def yJ4_init_da8c8 : MethodName := ⟨RJ4, "<init>", "()V"⟩
abbrev cJ4_append_15ec4 : ByteArray := prog_19_method_7_code
def yJ4_append_15ec4 : MethodName := ⟨RJ4, "append", "(Ljava/lang/String;)Ljava/lang/StringBuilder;"⟩
abbrev cJ4_append_bf812 : ByteArray := prog_19_method_15_code
def yJ4_append_bf812 : MethodName := ⟨RJ4, "append", "(I)Ljava/lang/StringBuilder;"⟩
abbrev cJ4_toString_0e30d : ByteArray := prog_19_method_42_code
def yJ4_toString_0e30d : MethodName := ⟨RJ4, "toString", "()Ljava/lang/String;"⟩
abbrev cJ4_length_8abf5 : ByteArray := prog_19_method_93_code
def yJ4_length_8abf5 : MethodName := ⟨RJ4, "length", "()I"⟩
def RJ1 : String := "java/lang/StringLatin1"
def TJ1 : u_T := fun k => match k with
  | _ => ("", "", "", false)
def tyJ1 : Nat → FieldType := fun k => match k with
  | _ => .int
theorem nmJ1 : ∀ a, a < 0 → ∀ b, b < 0 → a ≠ b → (TJ1 a).2.1 ≠ (TJ1 b).2.1 := by decide +kernel
theorem tyJ1_ok : ∀ k, k < 0 → parseFieldDescriptor (TJ1 k).2.2.1 = some (tyJ1 k) := by decide +kernel
abbrev cJ1_charAt_3b067 : ByteArray := prog_20_method_2_code
def yJ1_charAt_3b067 : MethodName := ⟨RJ1, "charAt", "([BI)C"⟩
abbrev cJ1_inflate_0e8fd : ByteArray := prog_20_method_50_code
def yJ1_inflate_0e8fd : MethodName := ⟨RJ1, "inflate", "([BI[BII)V"⟩
def RJ2 : String := "java/lang/StringUTF16"
def TJ2 : u_T := fun k => match k with
  | _ => ("", "", "", false)
def tyJ2 : Nat → FieldType := fun k => match k with
  | _ => .int
theorem nmJ2 : ∀ a, a < 0 → ∀ b, b < 0 → a ≠ b → (TJ2 a).2.1 ≠ (TJ2 b).2.1 := by decide +kernel
theorem tyJ2_ok : ∀ k, k < 0 → parseFieldDescriptor (TJ2 k).2.2.1 = some (tyJ2 k) := by decide +kernel
abbrev cJ2_newBytesFor_77867 : ByteArray := prog_21_method_2_code
def yJ2_newBytesFor_77867 : MethodName := ⟨RJ2, "newBytesFor", "(I)[B"⟩
abbrev cJ2_newBytesLength_0f7a4 : ByteArray := prog_21_method_3_code
def yJ2_newBytesLength_0f7a4 : MethodName := ⟨RJ2, "newBytesLength", "(I)I"⟩
abbrev cJ2_putChar_b72d1 : ByteArray := prog_21_method_4_code
def yJ2_putChar_b72d1 : MethodName := ⟨RJ2, "putChar", "([BII)V"⟩
abbrev cJ2_getChar_3b067 : ByteArray := prog_21_method_5_code
def yJ2_getChar_3b067 : MethodName := ⟨RJ2, "getChar", "([BI)C"⟩
abbrev cJ2_length_9d52b : ByteArray := prog_21_method_6_code
def yJ2_length_9d52b : MethodName := ⟨RJ2, "length", "([B)I"⟩
abbrev cJ2_coderFromArrayLen_85cad : ByteArray := prog_21_method_15_code
def yJ2_coderFromArrayLen_85cad : MethodName := ⟨RJ2, "coderFromArrayLen", "([BI)B"⟩
abbrev cJ2_compress_39247 : ByteArray := prog_21_method_17_code
def yJ2_compress_39247 : MethodName := ⟨RJ2, "compress", "([BII)[B"⟩
abbrev cJ2_compress_5af95 : ByteArray := prog_21_method_22_code
def yJ2_compress_5af95 : MethodName := ⟨RJ2, "compress", "([BI[BII)I"⟩
abbrev cJ2_getChars_46870 : ByteArray := prog_21_method_77_code
def yJ2_getChars_46870 : MethodName := ⟨RJ2, "getChars", "(III[B)I"⟩
abbrev cJ2_putCharsAt_cd4e5 : ByteArray := prog_21_method_81_code
def yJ2_putCharsAt_cd4e5 : MethodName := ⟨RJ2, "putCharsAt", "([BICCCC)I"⟩
abbrev cJ2_charAt_3b067 : ByteArray := prog_21_method_83_code
def yJ2_charAt_3b067 : MethodName := ⟨RJ2, "charAt", "([BI)C"⟩
abbrev cJ2_inflate_0e8fd : ByteArray := prog_21_method_86_code
def yJ2_inflate_0e8fd : MethodName := ⟨RJ2, "inflate", "([BI[BII)V"⟩
abbrev cJ2_getChars_ba4f3 : ByteArray := prog_21_method_89_code
def yJ2_getChars_ba4f3 : MethodName := ⟨RJ2, "getChars", "(II[B)I"⟩
abbrev cJ2_checkIndex_2214a : ByteArray := prog_21_method_91_code
def yJ2_checkIndex_2214a : MethodName := ⟨RJ2, "checkIndex", "(I[B)V"⟩
abbrev cJ2_checkBoundsBeginEnd_d044e : ByteArray := prog_21_method_93_code
def yJ2_checkBoundsBeginEnd_d044e : MethodName := ⟨RJ2, "checkBoundsBeginEnd", "(II[B)V"⟩
abbrev cJ2_checkBoundsOffCount_d044e : ByteArray := prog_21_method_94_code
def yJ2_checkBoundsOffCount_d044e : MethodName := ⟨RJ2, "checkBoundsOffCount", "(II[B)V"⟩
def RJ10 : String := "java/lang/System"
def TJ10 : u_T := fun k => match k with
  | _ => ("", "", "", false)
def tyJ10 : Nat → FieldType := fun k => match k with
  | _ => .int
theorem nmJ10 : ∀ a, a < 0 → ∀ b, b < 0 → a ≠ b → (TJ10 a).2.1 ≠ (TJ10 b).2.1 := by decide +kernel
theorem tyJ10_ok : ∀ k, k < 0 → parseFieldDescriptor (TJ10 k).2.2.1 = some (tyJ10 k) := by decide +kernel
def RJ7 : String := "java/util/Arrays"
def TJ7 : u_T := fun k => match k with
  | _ => ("", "", "", false)
def tyJ7 : Nat → FieldType := fun k => match k with
  | _ => .int
theorem nmJ7 : ∀ a, a < 0 → ∀ b, b < 0 → a ≠ b → (TJ7 a).2.1 ≠ (TJ7 b).2.1 := by decide +kernel
theorem tyJ7_ok : ∀ k, k < 0 → parseFieldDescriptor (TJ7 k).2.2.1 = some (tyJ7 k) := by decide +kernel
abbrev cJ7_copyOf_9075b : ByteArray := prog_23_method_121_code
def yJ7_copyOf_9075b : MethodName := ⟨RJ7, "copyOf", "([BI)[B"⟩
abbrev cJ7_checkLength_df160 : ByteArray := prog_23_method_131_code
def yJ7_checkLength_df160 : MethodName := ⟨RJ7, "checkLength", "(II)V"⟩
abbrev cJ7_copyOfRange_39247 : ByteArray := prog_23_method_132_code
def yJ7_copyOfRange_39247 : MethodName := ⟨RJ7, "copyOfRange", "([BII)[B"⟩
abbrev cJ7_copyOfRangeByte_39247 : ByteArray := prog_23_method_133_code
def yJ7_copyOfRangeByte_39247 : MethodName := ⟨RJ7, "copyOfRangeByte", "([BII)[B"⟩
def RJ8 : String := "jdk/internal/util/ArraysSupport"
def TJ8 : u_T := fun k => match k with
  | _ => ("", "", "", false)
def tyJ8 : Nat → FieldType := fun k => match k with
  | _ => .int
theorem nmJ8 : ∀ a, a < 0 → ∀ b, b < 0 → a ≠ b → (TJ8 a).2.1 ≠ (TJ8 b).2.1 := by decide +kernel
theorem tyJ8_ok : ∀ k, k < 0 → parseFieldDescriptor (TJ8 k).2.2.1 = some (tyJ8 k) := by decide +kernel
abbrev cJ8_newLength_cabcc : ByteArray := prog_24_method_27_code
def yJ8_newLength_cabcc : MethodName := ⟨RJ8, "newLength", "(III)I"⟩
abbrev cJ8_hugeLength_7cf53 : ByteArray := prog_24_method_28_code
def yJ8_hugeLength_7cf53 : MethodName := ⟨RJ8, "hugeLength", "(II)I"⟩
def RJ3 : String := "jdk/internal/util/Preconditions"
def TJ3 : u_T := fun k => match k with
  | _ => ("", "", "", false)
def tyJ3 : Nat → FieldType := fun k => match k with
  | _ => .int
theorem nmJ3 : ∀ a, a < 0 → ∀ b, b < 0 → a ≠ b → (TJ3 a).2.1 ≠ (TJ3 b).2.1 := by decide +kernel
theorem tyJ3_ok : ∀ k, k < 0 → parseFieldDescriptor (TJ3 k).2.2.1 = some (tyJ3 k) := by decide +kernel
abbrev cJ3_checkIndex_8e157 : ByteArray := prog_25_method_11_code
def yJ3_checkIndex_8e157 : MethodName := ⟨RJ3, "checkIndex", "(IILjava/util/function/BiFunction;)I"⟩
abbrev cJ3_checkFromToIndex_8c36e : ByteArray := prog_25_method_12_code
def yJ3_checkFromToIndex_8c36e : MethodName := ⟨RJ3, "checkFromToIndex", "(IIILjava/util/function/BiFunction;)I"⟩
abbrev cJ3_checkFromIndexSize_8c36e : ByteArray := prog_25_method_13_code
def yJ3_checkFromIndexSize_8c36e : MethodName := ⟨RJ3, "checkFromIndexSize", "(IIILjava/util/function/BiFunction;)I"⟩
def RL : String := "FortressWatchLaw"
abbrev cL_cell : ByteArray := method_2_code
def yL_cell : MethodName := ⟨RL, "cell", "([II)I"⟩
abbrev cL_in : ByteArray := method_3_code
def yL_in : MethodName := ⟨RL, "in", "([III)I"⟩
abbrev cL_reads : ByteArray := method_4_code
def yL_reads : MethodName := ⟨RL, "reads", "(LFortressWatch;Ljava/lang/String;)I"⟩
abbrev cL_begun : ByteArray := method_5_code
def yL_begun : MethodName := ⟨RL, "begun", "([I)LFortressWatch;"⟩
abbrev cL_does : ByteArray := method_6_code
def yL_does : MethodName := ⟨RL, "does", "(LFortressWatch;[II)I"⟩
abbrev cL_seen : ByteArray := method_7_code
def yL_seen : MethodName := ⟨RL, "seen", "(LFortressWatch;)[I"⟩
abbrev cL_areAlike : ByteArray := method_8_code
def yL_areAlike : MethodName := ⟨RL, "areAlike", "([I[I)Z"⟩
abbrev cL_should : ByteArray := method_9_code
def yL_should : MethodName := ⟨RL, "should", "(LFortressWatch;II)Z"⟩
abbrev cL_isWell : ByteArray := method_10_code
def yL_isWell : MethodName := ⟨RL, "isWell", "(LFortressWatch;)Z"⟩
abbrev cL_law : ByteArray := code
def yL_law : MethodName := ⟨RL, "law", "([I)Z"⟩
def TB : List Cond := lw_tbl.filter goodWord
theorem tb_good : TB.all goodWord = true := by simp [TB]
theorem tb_m {w : Cond} (i : Nat) (h : lw_tbl[i]? = some w) (g : goodWord w = true) : w ∈ TB := List.mem_filter.mpr ⟨List.mem_of_getElem? h, g⟩
theorem tb_l {w : Cond} (h : w ∈ TB) : w ∈ lw_tbl := (List.mem_filter.mp h).1
/-- a method's instructions, all at once -/
def Tab (cc : ByteArray) (tab : List (Nat × Instr × Nat)) : Bool := tab.all (fun q => decide (decode cc q.1 = .ok q.2))
theorem dg {cc : ByteArray} {tab : List (Nat × Instr × Nat)} (h : Tab cc tab = true) (i : Nat) {pc len : Nat} {ins : Instr} (ht : tab[i]? = some (pc, ins, len)) : decode cc pc = .ok (ins, len) := by
  have h1 := List.all_eq_true.mp h _ (List.mem_of_getElem? ht)
  have h2 : decide (decode cc (pc, ins, len).1 = .ok (pc, ins, len).2) = true := h1
  rw [decide_eq_true_iff] at h2
  exact h2
def tX0_init : List (Nat × Instr × Nat) := [(0, .aload_n 0, 1), (1, .invokespecial 3, 3), (4, .aload_n 0, 1), (5, .sipush 512, 3), (8, .newarray .int, 2), (10, .putfield 9, 3), (13, .aload_n 0, 1), (14, .bipush 24, 2), (16, .newarray .int, 2), (18, .putfield 15, 3), (21, .return_, 1)]
set_option maxRecDepth 20000 in
theorem DX0_init : Tab cX0_init tX0_init = true := by decide +kernel
def tX0_trySets : List (Nat × Instr × Nat) := [(0, .aload_n 0, 1), (1, .bipush (-4), 2), (3, .putfield 18, 3), (6, .aload_n 0, 1), (7, .iconst 0, 1), (8, .putfield 22, 3), (11, .aload_n 0, 1), (12, .iconst 0, 1), (13, .putfield 25, 3), (16, .bipush 10, 2), (18, .istore_n 2, 1), (19, .iconst 1, 1), (20, .aload_n 1, 1), (21, .getfield 28, 3), (24, .ishl, 1), (25, .istore_n 3, 1), (26, .aload_n 0, 1), (27, .aload_n 1, 1), (28, .invokevirtual 33, 3), (31, .iconst 0, 1), (32, .istore 4, 2), (34, .iload 4, 2), (36, .iload_n 3, 1), (37, .if_icmp .ge 94, 3), (40, .iload 4, 2), (42, .aload_n 0, 1), (43, .getfield 9, 3), (46, .arraylength, 1), (47, .if_icmp .ge 84, 3), (50, .iload 4, 2), (52, .invokestatic 37, 3), (55, .istore 5, 2), (57, .aload_n 0, 1), (58, .getfield 9, 3), (61, .iload 4, 2), (63, .iaload, 1), (64, .ldc 43, 2), (66, .if_icmp .ne 59, 3), (69, .iload 5, 2), (71, .iload_n 2, 1), (72, .if_icmp .le 6, 3), (75, .goto 50, 3), (78, .iload 5, 2), (80, .iload_n 2, 1), (81, .if_icmp .ge 23, 3), (84, .iload 5, 2), (86, .istore_n 2, 1), (87, .aload_n 0, 1), (88, .iload 4, 2), (90, .putfield 18, 3), (93, .aload_n 0, 1), (94, .iconst 0, 1), (95, .putfield 22, 3), (98, .aload_n 0, 1), (99, .iload 4, 2), (101, .putfield 25, 3), (104, .aload_n 0, 1), (105, .dup, 1), (106, .getfield 22, 3), (109, .iconst 1, 1), (110, .iadd, 1), (111, .putfield 22, 3), (114, .aload_n 0, 1), (115, .dup, 1), (116, .getfield 25, 3), (119, .iload 4, 2), (121, .iand, 1), (122, .putfield 25, 3), (125, .iinc 4 1, 3), (128, .goto (-94), 3), (131, .return_, 1)]
set_option maxRecDepth 20000 in
theorem DX0_trySets : Tab cX0_trySets tX0_trySets = true := by decide +kernel
def tX0_fillSets : List (Nat × Instr × Nat) := [(0, .aload_n 0, 1), (1, .getfield 9, 3), (4, .iconst 0, 1), (5, .iconst 0, 1), (6, .iastore, 1), (7, .iconst 0, 1), (8, .istore_n 2, 1), (9, .iload_n 2, 1), (10, .bipush 9, 2), (12, .if_icmp .ge 76, 3), (15, .iload_n 2, 1), (16, .aload_n 1, 1), (17, .getfield 28, 3), (20, .if_icmp .ge 68, 3), (23, .aload_n 1, 1), (24, .iload_n 2, 1), (25, .invokevirtual 44, 3), (28, .istore_n 3, 1), (29, .iconst 1, 1), (30, .iload_n 2, 1), (31, .ishl, 1), (32, .istore 4, 2), (34, .iconst 0, 1), (35, .istore 5, 2), (37, .iload 5, 2), (39, .iload 4, 2), (41, .if_icmp .ge 41, 3), (44, .iload 4, 2), (46, .iload 5, 2), (48, .iadd, 1), (49, .aload_n 0, 1), (50, .getfield 9, 3), (53, .arraylength, 1), (54, .if_icmp .ge 28, 3), (57, .aload_n 0, 1), (58, .getfield 9, 3), (61, .iload 4, 2), (63, .iload 5, 2), (65, .iadd, 1), (66, .aload_n 0, 1), (67, .getfield 9, 3), (70, .iload 5, 2), (72, .iaload, 1), (73, .iload_n 3, 1), (74, .ior, 1), (75, .iastore, 1), (76, .iinc 5 1, 3), (79, .goto (-42), 3), (82, .iinc 2 1, 3), (85, .goto (-76), 3), (88, .return_, 1)]
set_option maxRecDepth 20000 in
theorem DX0_fillSets : Tab cX0_fillSets tX0_fillSets = true := by decide +kernel
def tX0_searchStones : List (Nat × Instr × Nat) := [(0, .iconst 0, 1), (1, .istore_n 2, 1), (2, .iload_n 2, 1), (3, .bipush 24, 2), (5, .if_icmp .ge 20, 3), (8, .aload_n 0, 1), (9, .getfield 15, 3), (12, .iload_n 2, 1), (13, .aload_n 1, 1), (14, .iload_n 2, 1), (15, .invokevirtual 47, 3), (18, .iastore, 1), (19, .iinc 2 1, 3), (22, .goto (-20), 3), (25, .aload_n 1, 1), (26, .aload_n 0, 1), (27, .getfield 15, 3), (30, .ldc 43, 2), (32, .iconst 0, 1), (33, .bipush (-4), 2), (35, .iconst 0, 1), (36, .invokestatic 50, 3), (39, .ireturn, 1)]
set_option maxRecDepth 20000 in
theorem DX0_searchStones : Tab cX0_searchStones tX0_searchStones = true := by decide +kernel
def tX0_search : List (Nat × Instr × Nat) := [(0, .iload_n 2, 1), (1, .ifCond .ne 10, 3), (4, .iload_n 3, 1), (5, .iload 4, 2), (7, .invokestatic 54, 3), (10, .ireturn, 1), (11, .iload 5, 2), (13, .bipush 9, 2), (15, .if_icmp .ge 20, 3), (18, .iload 4, 2), (20, .bipush (-4), 2), (22, .if_icmp .eq 16, 3), (25, .iload 5, 2), (27, .iload 4, 2), (29, .invokestatic 37, 3), (32, .if_icmp .lt 6, 3), (35, .iload 4, 2), (37, .ireturn, 1), (38, .aload_n 1, 1), (39, .iload_n 2, 1), (40, .invokestatic 58, 3), (43, .istore 6, 2), (45, .iload 4, 2), (47, .istore 7, 2), (49, .iconst 0, 1), (50, .istore 8, 2), (52, .iload 8, 2), (54, .bipush 9, 2), (56, .if_icmp .ge 48, 3), (59, .iload 6, 2), (61, .iload 8, 2), (63, .invokestatic 62, 3), (66, .ifCond .eq 32, 3), (69, .aload_n 0, 1), (70, .aload_n 1, 1), (71, .iload_n 2, 1), (72, .aload_n 0, 1), (73, .iload 8, 2), (75, .invokevirtual 44, 3), (78, .iconst (-1), 1), (79, .ixor, 1), (80, .iand, 1), (81, .iload_n 3, 1), (82, .iconst 1, 1), (83, .iload 8, 2), (85, .ishl, 1), (86, .ior, 1), (87, .iload 7, 2), (89, .iload 5, 2), (91, .iconst 1, 1), (92, .iadd, 1), (93, .invokestatic 50, 3), (96, .istore 7, 2), (98, .iinc 8 1, 3), (101, .goto (-49), 3), (104, .iload 7, 2), (106, .ireturn, 1)]
set_option maxRecDepth 20000 in
theorem DX0_search : Tab cX0_search tX0_search = true := by decide +kernel
def tX0_fewestSeers : List (Nat × Instr × Nat) := [(0, .iconst 0, 1), (1, .istore_n 2, 1), (2, .bipush 10, 2), (4, .istore_n 3, 1), (5, .iconst 0, 1), (6, .istore 4, 2), (8, .iload 4, 2), (10, .bipush 24, 2), (12, .if_icmp .ge 48, 3), (15, .iload 4, 2), (17, .aload_n 0, 1), (18, .arraylength, 1), (19, .if_icmp .ge 41, 3), (22, .aload_n 0, 1), (23, .iload 4, 2), (25, .iaload, 1), (26, .invokestatic 37, 3), (29, .istore 5, 2), (31, .iload_n 1, 1), (32, .iload 4, 2), (34, .invokestatic 62, 3), (37, .ifCond .eq 17, 3), (40, .iload 5, 2), (42, .iload_n 3, 1), (43, .if_icmp .ge 11, 3), (46, .iload 5, 2), (48, .istore_n 3, 1), (49, .aload_n 0, 1), (50, .iload 4, 2), (52, .iaload, 1), (53, .istore_n 2, 1), (54, .iinc 4 1, 3), (57, .goto (-49), 3), (60, .iload_n 2, 1), (61, .ireturn, 1)]
set_option maxRecDepth 20000 in
theorem DX0_fewestSeers : Tab cX0_fewestSeers tX0_fewestSeers = true := by decide +kernel
def tX0_better : List (Nat × Instr × Nat) := [(0, .iload_n 1, 1), (1, .bipush (-4), 2), (3, .if_icmp .ne 5, 3), (6, .iload_n 0, 1), (7, .ireturn, 1), (8, .iload_n 0, 1), (9, .invokestatic 37, 3), (12, .iload_n 1, 1), (13, .invokestatic 37, 3), (16, .isub, 1), (17, .istore_n 2, 1), (18, .iload_n 2, 1), (19, .ifCond .lt 12, 3), (22, .iload_n 2, 1), (23, .ifCond .ne 12, 3), (26, .iload_n 0, 1), (27, .iload_n 1, 1), (28, .if_icmp .ge 7, 3), (31, .iload_n 0, 1), (32, .goto 4, 3), (35, .iload_n 1, 1), (36, .ireturn, 1)]
set_option maxRecDepth 20000 in
theorem DX0_better : Tab cX0_better tX0_better = true := by decide +kernel
def tX1_init : List (Nat × Instr × Nat) := [(0, .aload_n 0, 1), (1, .invokespecial 3, 3), (4, .aload_n 0, 1), (5, .bipush 12, 2), (7, .newarray .int, 2), (9, .putfield 9, 3), (12, .aload_n 0, 1), (13, .bipush 12, 2), (15, .newarray .int, 2), (17, .putfield 15, 3), (20, .return_, 1)]
set_option maxRecDepth 20000 in
theorem DX1_init : Tab cX1_init tX1_init = true := by decide +kernel
def tX1_find : List (Nat × Instr × Nat) := [(0, .aload_n 0, 1), (1, .iconst 0, 1), (2, .putfield 18, 3), (5, .iload_n 1, 1), (6, .ifCond .ne 11, 3), (9, .aload_n 0, 1), (10, .iconst 0, 1), (11, .bipush 24, 2), (13, .invokevirtual 22, 3), (16, .return_, 1), (17, .iload_n 1, 1), (18, .iconst 1, 1), (19, .invokestatic 26, 3), (22, .istore_n 2, 1), (23, .iconst 0, 1), (24, .istore_n 3, 1), (25, .iload_n 3, 1), (26, .bipush 24, 2), (28, .if_icmp .ge 35, 3), (31, .iload_n 1, 1), (32, .iload_n 3, 1), (33, .invokestatic 30, 3), (36, .ifCond .ne 21, 3), (39, .iload_n 2, 1), (40, .iload_n 3, 1), (41, .invokestatic 30, 3), (44, .ifCond .eq 13, 3), (47, .aload_n 0, 1), (48, .iload_n 3, 1), (49, .iload_n 1, 1), (50, .iload_n 3, 1), (51, .invokestatic 34, 3), (54, .invokevirtual 22, 3), (57, .iinc 3 1, 3), (60, .goto (-35), 3), (63, .return_, 1)]
set_option maxRecDepth 20000 in
theorem DX1_find : Tab cX1_find tX1_find = true := by decide +kernel
def tX1_openFrom : List (Nat × Instr × Nat) := [(0, .iload_n 1, 1), (1, .istore_n 2, 1), (2, .iconst 0, 1), (3, .istore_n 3, 1), (4, .iload_n 3, 1), (5, .bipush 24, 2), (7, .if_icmp .ge 33, 3), (10, .iload_n 0, 1), (11, .iload_n 2, 1), (12, .invokestatic 30, 3), (15, .ifCond .eq 5, 3), (18, .iload_n 3, 1), (19, .ireturn, 1), (20, .iload_n 2, 1), (21, .bipush 23, 2), (23, .if_icmp .ne 7, 3), (26, .iconst 0, 1), (27, .goto 6, 3), (30, .iload_n 2, 1), (31, .iconst 1, 1), (32, .iadd, 1), (33, .istore_n 2, 1), (34, .iinc 3 1, 3), (37, .goto (-33), 3), (40, .bipush 24, 2), (42, .ireturn, 1)]
set_option maxRecDepth 20000 in
theorem DX1_openFrom : Tab cX1_openFrom tX1_openFrom = true := by decide +kernel
def tX1_add : List (Nat × Instr × Nat) := [(0, .aload_n 0, 1), (1, .getfield 18, 3), (4, .ifCond .lt 42, 3), (7, .aload_n 0, 1), (8, .getfield 18, 3), (11, .bipush 12, 2), (13, .if_icmp .ge 33, 3), (16, .aload_n 0, 1), (17, .getfield 9, 3), (20, .aload_n 0, 1), (21, .getfield 18, 3), (24, .iload_n 1, 1), (25, .iastore, 1), (26, .aload_n 0, 1), (27, .getfield 15, 3), (30, .aload_n 0, 1), (31, .getfield 18, 3), (34, .iload_n 2, 1), (35, .iastore, 1), (36, .aload_n 0, 1), (37, .dup, 1), (38, .getfield 18, 3), (41, .iconst 1, 1), (42, .iadd, 1), (43, .putfield 18, 3), (46, .return_, 1)]
set_option maxRecDepth 20000 in
theorem DX1_add : Tab cX1_add tX1_add = true := by decide +kernel
def tX1_isGap : List (Nat × Instr × Nat) := [(0, .iload_n 1, 1), (1, .ifCond .lt 21, 3), (4, .iload_n 1, 1), (5, .aload_n 0, 1), (6, .getfield 18, 3), (9, .if_icmp .ge 13, 3), (12, .iload_n 1, 1), (13, .bipush 12, 2), (15, .if_icmp .ge 7, 3), (18, .iconst 1, 1), (19, .goto 4, 3), (22, .iconst 0, 1), (23, .ireturn, 1)]
set_option maxRecDepth 20000 in
theorem DX1_isGap : Tab cX1_isGap tX1_isGap = true := by decide +kernel
def tX1_firstOf : List (Nat × Instr × Nat) := [(0, .aload_n 0, 1), (1, .iload_n 1, 1), (2, .invokevirtual 37, 3), (5, .ifCond .eq 12, 3), (8, .aload_n 0, 1), (9, .getfield 9, 3), (12, .iload_n 1, 1), (13, .iaload, 1), (14, .goto 4, 3), (17, .iconst 0, 1), (18, .ireturn, 1)]
set_option maxRecDepth 20000 in
theorem DX1_firstOf : Tab cX1_firstOf tX1_firstOf = true := by decide +kernel
def tX1_lengthOf : List (Nat × Instr × Nat) := [(0, .aload_n 0, 1), (1, .iload_n 1, 1), (2, .invokevirtual 37, 3), (5, .ifCond .eq 12, 3), (8, .aload_n 0, 1), (9, .getfield 15, 3), (12, .iload_n 1, 1), (13, .iaload, 1), (14, .goto 4, 3), (17, .iconst 0, 1), (18, .ireturn, 1)]
set_option maxRecDepth 20000 in
theorem DX1_lengthOf : Tab cX1_lengthOf tX1_lengthOf = true := by decide +kernel
def tX1_lengthOfAll : List (Nat × Instr × Nat) := [(0, .iconst 0, 1), (1, .istore_n 1, 1), (2, .iconst 0, 1), (3, .istore_n 2, 1), (4, .iload_n 2, 1), (5, .bipush 12, 2), (7, .if_icmp .ge 17, 3), (10, .iload_n 1, 1), (11, .aload_n 0, 1), (12, .iload_n 2, 1), (13, .invokevirtual 41, 3), (16, .iadd, 1), (17, .istore_n 1, 1), (18, .iinc 2 1, 3), (21, .goto (-17), 3), (24, .iload_n 1, 1), (25, .ireturn, 1)]
set_option maxRecDepth 20000 in
theorem DX1_lengthOfAll : Tab cX1_lengthOfAll tX1_lengthOfAll = true := by decide +kernel
def tX1_longest : List (Nat × Instr × Nat) := [(0, .iconst 0, 1), (1, .istore_n 1, 1), (2, .iconst 0, 1), (3, .istore_n 2, 1), (4, .iload_n 2, 1), (5, .bipush 12, 2), (7, .if_icmp .ge 19, 3), (10, .iload_n 1, 1), (11, .aload_n 0, 1), (12, .iload_n 2, 1), (13, .invokevirtual 41, 3), (16, .invokestatic 45, 3), (19, .istore_n 1, 1), (20, .iinc 2 1, 3), (23, .goto (-19), 3), (26, .iload_n 1, 1), (27, .ireturn, 1)]
set_option maxRecDepth 20000 in
theorem DX1_longest : Tab cX1_longest tX1_longest = true := by decide +kernel
def tX2_init : List (Nat × Instr × Nat) := [(0, .aload_n 0, 1), (1, .invokespecial 3, 3), (4, .aload_n 0, 1), (5, .bipush 24, 2), (7, .newarray .int, 2), (9, .putfield 9, 3), (12, .return_, 1)]
set_option maxRecDepth 20000 in
theorem DX2_init : Tab cX2_init tX2_init = true := by decide +kernel
def tX3_init : List (Nat × Instr × Nat) := [(0, .aload_n 0, 1), (1, .invokespecial 3, 3), (4, .aload_n 0, 1), (5, .bipush 9, 2), (7, .newarray .int, 2), (9, .putfield 9, 3), (12, .return_, 1)]
set_option maxRecDepth 20000 in
theorem DX3_init : Tab cX3_init tX3_init = true := by decide +kernel
def tX3_giveKey : List (Nat × Instr × Nat) := [(0, .iload_n 1, 1), (1, .ifCond .lt 16, 3), (4, .iload_n 1, 1), (5, .bipush 9, 2), (7, .if_icmp .ge 10, 3), (10, .aload_n 0, 1), (11, .getfield 9, 3), (14, .iload_n 1, 1), (15, .iload_n 2, 1), (16, .iastore, 1), (17, .return_, 1)]
set_option maxRecDepth 20000 in
theorem DX3_giveKey : Tab cX3_giveKey tX3_giveKey = true := by decide +kernel
def tX3_at : List (Nat × Instr × Nat) := [(0, .iconst 0, 1), (1, .istore_n 3, 1), (2, .iload_n 3, 1), (3, .bipush 9, 2), (5, .if_icmp .ge 26, 3), (8, .iload_n 3, 1), (9, .iload_n 2, 1), (10, .if_icmp .ge 15, 3), (13, .aload_n 0, 1), (14, .iload_n 3, 1), (15, .iload_n 2, 1), (16, .invokevirtual 15, 3), (19, .iload_n 1, 1), (20, .if_icmp .ne 5, 3), (23, .iload_n 3, 1), (24, .ireturn, 1), (25, .iinc 3 1, 3), (28, .goto (-26), 3), (31, .iconst (-1), 1), (32, .ireturn, 1)]
set_option maxRecDepth 20000 in
theorem DX3_at : Tab cX3_at tX3_at = true := by decide +kernel
def tX3_placeOf : List (Nat × Instr × Nat) := [(0, .iconst 0, 1), (1, .istore_n 3, 1), (2, .iconst 0, 1), (3, .istore 4, 2), (5, .iload 4, 2), (7, .bipush 9, 2), (9, .if_icmp .ge 56, 3), (12, .iload 4, 2), (14, .iload_n 2, 1), (15, .if_icmp .ge 50, 3), (18, .aload_n 0, 1), (19, .getfield 9, 3), (22, .iload 4, 2), (24, .iaload, 1), (25, .aload_n 0, 1), (26, .getfield 9, 3), (29, .iload_n 1, 1), (30, .iaload, 1), (31, .if_icmp .gt 25, 3), (34, .aload_n 0, 1), (35, .getfield 9, 3), (38, .iload 4, 2), (40, .iaload, 1), (41, .aload_n 0, 1), (42, .getfield 9, 3), (45, .iload_n 1, 1), (46, .iaload, 1), (47, .if_icmp .ne 12, 3), (50, .iload 4, 2), (52, .iload_n 1, 1), (53, .if_icmp .ge 6, 3), (56, .iinc 3 1, 3), (59, .iinc 4 1, 3), (62, .goto (-57), 3), (65, .iload_n 3, 1), (66, .ireturn, 1)]
set_option maxRecDepth 20000 in
theorem DX3_placeOf : Tab cX3_placeOf tX3_placeOf = true := by decide +kernel
def tX4_init : List (Nat × Instr × Nat) := [(0, .aload_n 0, 1), (1, .invokespecial 3, 3), (4, .aload_n 0, 1), (5, .bipush 8, 2), (7, .anewarray 9, 3), (10, .putfield 11, 3), (13, .iconst 0, 1), (14, .istore_n 1, 1), (15, .iload_n 1, 1), (16, .bipush 8, 2), (18, .if_icmp .ge 22, 3), (21, .aload_n 0, 1), (22, .getfield 11, 3), (25, .iload_n 1, 1), (26, .new 9, 3), (29, .dup, 1), (30, .invokespecial 17, 3), (33, .aastore, 1), (34, .iinc 1 1, 3), (37, .goto (-22), 3), (40, .return_, 1)]
set_option maxRecDepth 20000 in
theorem DX4_init : Tab cX4_init tX4_init = true := by decide +kernel
def tX4_keep : List (Nat × Instr × Nat) := [(0, .aload_n 0, 1), (1, .getfield 11, 3), (4, .aload_n 0, 1), (5, .getfield 18, 3), (8, .bipush 7, 2), (10, .iand, 1), (11, .aaload, 1), (12, .astore_n 2, 1), (13, .aload_n 2, 1), (14, .ifnull 8, 3), (17, .aload_n 2, 1), (18, .aload_n 1, 1), (19, .invokevirtual 22, 3), (22, .aload_n 0, 1), (23, .dup, 1), (24, .getfield 18, 3), (27, .iconst 1, 1), (28, .iadd, 1), (29, .putfield 18, 3), (32, .aload_n 0, 1), (33, .aload_n 0, 1), (34, .getfield 26, 3), (37, .iconst 1, 1), (38, .iadd, 1), (39, .bipush 8, 2), (41, .invokestatic 29, 3), (44, .putfield 26, 3), (47, .return_, 1)]
set_option maxRecDepth 20000 in
theorem DX4_keep : Tab cX4_keep tX4_keep = true := by decide +kernel
def tX4_takeBack : List (Nat × Instr × Nat) := [(0, .aload_n 0, 1), (1, .dup, 1), (2, .getfield 18, 3), (5, .iconst 1, 1), (6, .isub, 1), (7, .putfield 18, 3), (10, .aload_n 0, 1), (11, .dup, 1), (12, .getfield 26, 3), (15, .iconst 1, 1), (16, .isub, 1), (17, .putfield 26, 3), (20, .aload_n 0, 1), (21, .getfield 11, 3), (24, .aload_n 0, 1), (25, .getfield 18, 3), (28, .bipush 7, 2), (30, .iand, 1), (31, .aaload, 1), (32, .astore_n 2, 1), (33, .aload_n 2, 1), (34, .ifnull 8, 3), (37, .aload_n 1, 1), (38, .aload_n 2, 1), (39, .invokevirtual 22, 3), (42, .return_, 1)]
set_option maxRecDepth 20000 in
theorem DX4_takeBack : Tab cX4_takeBack tX4_takeBack = true := by decide +kernel
def tX4_forget : List (Nat × Instr × Nat) := [(0, .aload_n 0, 1), (1, .iconst 0, 1), (2, .putfield 26, 3), (5, .return_, 1)]
set_option maxRecDepth 20000 in
theorem DX4_forget : Tab cX4_forget tX4_forget = true := by decide +kernel
def tX5_init : List (Nat × Instr × Nat) := [(0, .aload_n 0, 1), (1, .invokespecial 3, 3), (4, .return_, 1)]
set_option maxRecDepth 20000 in
theorem DX5_init : Tab cX5_init tX5_init = true := by decide +kernel
def tX5_tell : List (Nat × Instr × Nat) := [(0, .aload_n 0, 1), (1, .iload_n 1, 1), (2, .putfield 9, 3), (5, .aload_n 0, 1), (6, .iload_n 2, 1), (7, .putfield 15, 3), (10, .aload_n 0, 1), (11, .iload_n 3, 1), (12, .putfield 18, 3), (15, .return_, 1)]
set_option maxRecDepth 20000 in
theorem DX5_tell : Tab cX5_tell tX5_tell = true := by decide +kernel
def tX6_init : List (Nat × Instr × Nat) := [(0, .aload_n 0, 1), (1, .invokespecial 3, 3), (4, .aload_n 0, 1), (5, .bipush 9, 2), (7, .newarray .int, 2), (9, .putfield 9, 3), (12, .return_, 1)]
set_option maxRecDepth 20000 in
theorem DX6_init : Tab cX6_init tX6_init = true := by decide +kernel
def tX6_lookAt : List (Nat × Instr × Nat) := [(0, .aload_n 0, 1), (1, .aload_n 1, 1), (2, .getfield 15, 3), (5, .putfield 21, 3), (8, .aload_n 0, 1), (9, .iconst 0, 1), (10, .putfield 22, 3), (13, .iconst 0, 1), (14, .istore_n 3, 1), (15, .iload_n 3, 1), (16, .bipush 9, 2), (18, .if_icmp .ge 38, 3), (21, .aload_n 0, 1), (22, .getfield 9, 3), (25, .iload_n 3, 1), (26, .aload_n 1, 1), (27, .iload_n 3, 1), (28, .iload_n 2, 1), (29, .invokevirtual 25, 3), (32, .iastore, 1), (33, .aload_n 0, 1), (34, .dup, 1), (35, .getfield 22, 3), (38, .aload_n 1, 1), (39, .getfield 29, 3), (42, .iload_n 3, 1), (43, .iaload, 1), (44, .iload_n 3, 1), (45, .ishl, 1), (46, .ior, 1), (47, .putfield 22, 3), (50, .iinc 3 1, 3), (53, .goto (-38), 3), (56, .return_, 1)]
set_option maxRecDepth 20000 in
theorem DX6_lookAt : Tab cX6_lookAt tX6_lookAt = true := by decide +kernel
def tX6_of : List (Nat × Instr × Nat) := [(0, .iload_n 1, 1), (1, .ifCond .lt 18, 3), (4, .iload_n 1, 1), (5, .bipush 9, 2), (7, .if_icmp .ge 12, 3), (10, .aload_n 0, 1), (11, .getfield 9, 3), (14, .iload_n 1, 1), (15, .iaload, 1), (16, .goto 4, 3), (19, .iconst 0, 1), (20, .ireturn, 1)]
set_option maxRecDepth 20000 in
theorem DX6_of : Tab cX6_of tX6_of = true := by decide +kernel
def tX6_manySeen : List (Nat × Instr × Nat) := [(0, .aload_n 0, 1), (1, .iload_n 1, 1), (2, .invokevirtual 31, 3), (5, .invokestatic 35, 3), (8, .ireturn, 1)]
set_option maxRecDepth 20000 in
theorem DX6_manySeen : Tab cX6_manySeen tX6_manySeen = true := by decide +kernel
def tX6_manySeenAlone : List (Nat × Instr × Nat) := [(0, .aload_n 0, 1), (1, .iload_n 1, 1), (2, .invokevirtual 31, 3), (5, .aload_n 0, 1), (6, .sipush 511, 3), (9, .iconst 1, 1), (10, .iload_n 1, 1), (11, .ishl, 1), (12, .iconst (-1), 1), (13, .ixor, 1), (14, .iand, 1), (15, .invokevirtual 40, 3), (18, .iconst (-1), 1), (19, .ixor, 1), (20, .iand, 1), (21, .invokestatic 35, 3), (24, .ireturn, 1)]
set_option maxRecDepth 20000 in
theorem DX6_manySeenAlone : Tab cX6_manySeenAlone tX6_manySeenAlone = true := by decide +kernel
def tX6_seenBySet : List (Nat × Instr × Nat) := [(0, .iconst 0, 1), (1, .istore_n 2, 1), (2, .iconst 0, 1), (3, .istore_n 3, 1), (4, .iload_n 3, 1), (5, .bipush 9, 2), (7, .if_icmp .ge 26, 3), (10, .iload_n 1, 1), (11, .iload_n 3, 1), (12, .invokestatic 43, 3), (15, .ifCond .eq 12, 3), (18, .iload_n 2, 1), (19, .aload_n 0, 1), (20, .getfield 9, 3), (23, .iload_n 3, 1), (24, .iaload, 1), (25, .ior, 1), (26, .istore_n 2, 1), (27, .iinc 3 1, 3), (30, .goto (-26), 3), (33, .iload_n 2, 1), (34, .ireturn, 1)]
set_option maxRecDepth 20000 in
theorem DX6_seenBySet : Tab cX6_seenBySet tX6_seenBySet = true := by decide +kernel
def tX6_seersOf : List (Nat × Instr × Nat) := [(0, .iconst 0, 1), (1, .istore_n 2, 1), (2, .iconst 0, 1), (3, .istore_n 3, 1), (4, .iload_n 3, 1), (5, .bipush 9, 2), (7, .if_icmp .ge 24, 3), (10, .iload_n 2, 1), (11, .aload_n 0, 1), (12, .getfield 9, 3), (15, .iload_n 3, 1), (16, .iaload, 1), (17, .iload_n 1, 1), (18, .iushr, 1), (19, .iconst 1, 1), (20, .iand, 1), (21, .iload_n 3, 1), (22, .ishl, 1), (23, .ior, 1), (24, .istore_n 2, 1), (25, .iinc 3 1, 3), (28, .goto (-24), 3), (31, .iload_n 2, 1), (32, .ireturn, 1)]
set_option maxRecDepth 20000 in
theorem DX6_seersOf : Tab cX6_seersOf tX6_seersOf = true := by decide +kernel
def tX6_overlaps : List (Nat × Instr × Nat) := [(0, .iconst 0, 1), (1, .istore_n 1, 1), (2, .iconst 0, 1), (3, .istore_n 2, 1), (4, .iconst 0, 1), (5, .istore_n 3, 1), (6, .iload_n 3, 1), (7, .bipush 9, 2), (9, .if_icmp .ge 40, 3), (12, .aload_n 0, 1), (13, .getfield 22, 3), (16, .iload_n 3, 1), (17, .invokestatic 43, 3), (20, .ifCond .eq 23, 3), (23, .iload_n 2, 1), (24, .iload_n 1, 1), (25, .aload_n 0, 1), (26, .getfield 9, 3), (29, .iload_n 3, 1), (30, .iaload, 1), (31, .iand, 1), (32, .ior, 1), (33, .istore_n 2, 1), (34, .iload_n 1, 1), (35, .aload_n 0, 1), (36, .getfield 9, 3), (39, .iload_n 3, 1), (40, .iaload, 1), (41, .ior, 1), (42, .istore_n 1, 1), (43, .iinc 3 1, 3), (46, .goto (-40), 3), (49, .iload_n 2, 1), (50, .invokestatic 35, 3), (53, .ireturn, 1)]
set_option maxRecDepth 20000 in
theorem DX6_overlaps : Tab cX6_overlaps tX6_overlaps = true := by decide +kernel
def tX6_bestAmong : List (Nat × Instr × Nat) := [(0, .bipush (-4), 2), (2, .istore_n 3, 1), (3, .iconst 0, 1), (4, .istore 4, 2), (6, .iconst 0, 1), (7, .istore 5, 2), (9, .iload 5, 2), (11, .bipush 9, 2), (13, .if_icmp .ge 50, 3), (16, .iload_n 1, 1), (17, .iload 5, 2), (19, .invokestatic 43, 3), (22, .ifCond .eq 18, 3), (25, .aload_n 0, 1), (26, .getfield 9, 3), (29, .iload 5, 2), (31, .iaload, 1), (32, .iload_n 2, 1), (33, .iand, 1), (34, .invokestatic 35, 3), (37, .goto 4, 3), (40, .iconst 0, 1), (41, .istore 6, 2), (43, .iload 6, 2), (45, .iload 4, 2), (47, .if_icmp .le 10, 3), (50, .iload 5, 2), (52, .istore_n 3, 1), (53, .iload 6, 2), (55, .istore 4, 2), (57, .iinc 5 1, 3), (60, .goto (-51), 3), (63, .iload_n 3, 1), (64, .ireturn, 1)]
set_option maxRecDepth 20000 in
theorem DX6_bestAmong : Tab cX6_bestAmong tX6_bestAmong = true := by decide +kernel
def tX7_init : List (Nat × Instr × Nat) := [(0, .aload_n 0, 1), (1, .invokespecial 3, 3), (4, .aload_n 0, 1), (5, .bipush 70, 2), (7, .newarray .int, 2), (9, .putfield 9, 3), (12, .return_, 1)]
set_option maxRecDepth 20000 in
theorem DX7_init : Tab cX7_init tX7_init = true := by decide +kernel
def tX7_put : List (Nat × Instr × Nat) := [(0, .aload_n 0, 1), (1, .getfield 15, 3), (4, .ifCond .lt 12, 3), (7, .aload_n 0, 1), (8, .getfield 15, 3), (11, .bipush 70, 2), (13, .if_icmp .lt 6, 3), (16, .bipush (-2), 2), (18, .ireturn, 1), (19, .aload_n 0, 1), (20, .getfield 9, 3), (23, .aload_n 0, 1), (24, .getfield 15, 3), (27, .iload_n 1, 1), (28, .iastore, 1), (29, .aload_n 0, 1), (30, .dup, 1), (31, .getfield 15, 3), (34, .iconst 1, 1), (35, .iadd, 1), (36, .putfield 15, 3), (39, .aload_n 0, 1), (40, .getfield 15, 3), (43, .ireturn, 1)]
set_option maxRecDepth 20000 in
theorem DX7_put : Tab cX7_put tX7_put = true := by decide +kernel
def tX7_clear : List (Nat × Instr × Nat) := [(0, .aload_n 0, 1), (1, .iconst 0, 1), (2, .putfield 15, 3), (5, .return_, 1)]
set_option maxRecDepth 20000 in
theorem DX7_clear : Tab cX7_clear tX7_clear = true := by decide +kernel
def tX7_rewind : List (Nat × Instr × Nat) := [(0, .aload_n 0, 1), (1, .iconst 0, 1), (2, .putfield 19, 3), (5, .return_, 1)]
set_option maxRecDepth 20000 in
theorem DX7_rewind : Tab cX7_rewind tX7_rewind = true := by decide +kernel
def tX7_findFault : List (Nat × Instr × Nat) := [(0, .aload_n 0, 1), (1, .invokevirtual 22, 3), (4, .iconst 0, 1), (5, .istore_n 1, 1), (6, .iload_n 1, 1), (7, .bipush 70, 2), (9, .if_icmp .ge 43, 3), (12, .aload_n 0, 1), (13, .invokevirtual 25, 3), (16, .ifCond .eq 36, 3), (19, .aload_n 0, 1), (20, .getfield 19, 3), (23, .aload_n 0, 1), (24, .getfield 15, 3), (27, .if_icmp .lt 5, 3), (30, .iconst (-1), 1), (31, .ireturn, 1), (32, .aload_n 0, 1), (33, .bipush 59, 2), (35, .invokevirtual 29, 3), (38, .ifCond .ne 8, 3), (41, .aload_n 0, 1), (42, .getfield 19, 3), (45, .ireturn, 1), (46, .iinc 1 1, 3), (49, .goto (-43), 3), (52, .aload_n 0, 1), (53, .getfield 19, 3), (56, .ireturn, 1)]
set_option maxRecDepth 20000 in
theorem DX7_findFault : Tab cX7_findFault tX7_findFault = true := by decide +kernel
def tX7_takeCommand : List (Nat × Instr × Nat) := [(0, .aload_n 0, 1), (1, .aload_n 0, 1), (2, .invokevirtual 33, 3), (5, .putfield 37, 3), (8, .aload_n 0, 1), (9, .aload_n 0, 1), (10, .getfield 37, 3), (13, .invokevirtual 29, 3), (16, .ifCond .ne 5, 3), (19, .iconst 0, 1), (20, .ireturn, 1), (21, .aload_n 0, 1), (22, .getfield 37, 3), (25, .lookupswitch 241 #[(45, 227), (98, 179), (104, 233), (108, 227), (109, 227), (110, 227), (112, 83), (114, 131), (119, 239)], 83), (108, .aload_n 0, 1), (109, .iconst 2, 1), (110, .invokevirtual 40, 3), (113, .ifCond .eq 41, 3), (116, .aload_n 0, 1), (117, .bipush 60, 2), (119, .invokevirtual 29, 3), (122, .ifCond .eq 32, 3), (125, .aload_n 0, 1), (126, .iconst 2, 1), (127, .invokevirtual 43, 3), (130, .ifCond .eq 24, 3), (133, .aload_n 0, 1), (134, .bipush 62, 2), (136, .invokevirtual 29, 3), (139, .ifCond .eq 15, 3), (142, .aload_n 0, 1), (143, .iconst 2, 1), (144, .invokevirtual 46, 3), (147, .ifCond .eq 7, 3), (150, .iconst 1, 1), (151, .goto 4, 3), (154, .iconst 0, 1), (155, .ireturn, 1), (156, .aload_n 0, 1), (157, .iconst 1, 1), (158, .invokevirtual 40, 3), (161, .ifCond .eq 41, 3), (164, .aload_n 0, 1), (165, .bipush 60, 2), (167, .invokevirtual 29, 3), (170, .ifCond .eq 32, 3), (173, .aload_n 0, 1), (174, .iconst 2, 1), (175, .invokevirtual 43, 3), (178, .ifCond .eq 24, 3), (181, .aload_n 0, 1), (182, .bipush 62, 2), (184, .invokevirtual 29, 3), (187, .ifCond .eq 15, 3), (190, .aload_n 0, 1), (191, .iconst 2, 1), (192, .invokevirtual 46, 3), (195, .ifCond .eq 7, 3), (198, .iconst 1, 1), (199, .goto 4, 3), (202, .iconst 0, 1), (203, .ireturn, 1), (204, .aload_n 0, 1), (205, .iconst 1, 1), (206, .invokevirtual 40, 3), (209, .ifCond .eq 41, 3), (212, .aload_n 0, 1), (213, .bipush 33, 2), (215, .invokevirtual 29, 3), (218, .ifCond .eq 32, 3), (221, .aload_n 0, 1), (222, .iconst 2, 1), (223, .invokevirtual 43, 3), (226, .ifCond .eq 24, 3), (229, .aload_n 0, 1), (230, .bipush 43, 2), (232, .invokevirtual 29, 3), (235, .ifCond .eq 15, 3), (238, .aload_n 0, 1), (239, .iconst 1, 1), (240, .invokevirtual 46, 3), (243, .ifCond .eq 7, 3), (246, .iconst 1, 1), (247, .goto 4, 3), (250, .iconst 0, 1), (251, .ireturn, 1), (252, .aload_n 0, 1), (253, .iconst 1, 1), (254, .invokevirtual 40, 3), (257, .ireturn, 1), (258, .aload_n 0, 1), (259, .iconst 2, 1), (260, .invokevirtual 40, 3), (263, .ireturn, 1), (264, .iconst 1, 1), (265, .ireturn, 1), (266, .aload_n 0, 1), (267, .dup, 1), (268, .getfield 19, 3), (271, .iconst 1, 1), (272, .isub, 1), (273, .putfield 19, 3), (276, .iconst 0, 1), (277, .ireturn, 1)]
set_option maxRecDepth 20000 in
theorem DX7_takeCommand : Tab cX7_takeCommand tX7_takeCommand = true := by decide +kernel
def tX7_skip : List (Nat × Instr × Nat) := [(0, .aload_n 0, 1), (1, .invokevirtual 33, 3), (4, .iload_n 1, 1), (5, .if_icmp .ne 8, 3), (8, .iload_n 1, 1), (9, .iconst (-1), 1), (10, .if_icmp .ne 5, 3), (13, .iconst 0, 1), (14, .ireturn, 1), (15, .aload_n 0, 1), (16, .dup, 1), (17, .getfield 19, 3), (20, .iconst 1, 1), (21, .iadd, 1), (22, .putfield 19, 3), (25, .iconst 1, 1), (26, .ireturn, 1)]
set_option maxRecDepth 20000 in
theorem DX7_skip : Tab cX7_skip tX7_skip = true := by decide +kernel
def tX7_takeFirst : List (Nat × Instr × Nat) := [(0, .aload_n 0, 1), (1, .aload_n 0, 1), (2, .iload_n 1, 1), (3, .invokevirtual 49, 3), (6, .putfield 53, 3), (9, .aload_n 0, 1), (10, .getfield 53, 3), (13, .iconst (-1), 1), (14, .if_icmp .eq 7, 3), (17, .iconst 1, 1), (18, .goto 4, 3), (21, .iconst 0, 1), (22, .ireturn, 1)]
set_option maxRecDepth 20000 in
theorem DX7_takeFirst : Tab cX7_takeFirst tX7_takeFirst = true := by decide +kernel
def tX7_takeSecond : List (Nat × Instr × Nat) := [(0, .aload_n 0, 1), (1, .aload_n 0, 1), (2, .iload_n 1, 1), (3, .invokevirtual 49, 3), (6, .putfield 56, 3), (9, .aload_n 0, 1), (10, .getfield 56, 3), (13, .iconst (-1), 1), (14, .if_icmp .eq 7, 3), (17, .iconst 1, 1), (18, .goto 4, 3), (21, .iconst 0, 1), (22, .ireturn, 1)]
set_option maxRecDepth 20000 in
theorem DX7_takeSecond : Tab cX7_takeSecond tX7_takeSecond = true := by decide +kernel
def tX7_takeThird : List (Nat × Instr × Nat) := [(0, .aload_n 0, 1), (1, .aload_n 0, 1), (2, .iload_n 1, 1), (3, .invokevirtual 49, 3), (6, .putfield 59, 3), (9, .aload_n 0, 1), (10, .getfield 59, 3), (13, .iconst (-1), 1), (14, .if_icmp .eq 7, 3), (17, .iconst 1, 1), (18, .goto 4, 3), (21, .iconst 0, 1), (22, .ireturn, 1)]
set_option maxRecDepth 20000 in
theorem DX7_takeThird : Tab cX7_takeThird tX7_takeThird = true := by decide +kernel
def tX7_takeNumber : List (Nat × Instr × Nat) := [(0, .iconst (-1), 1), (1, .istore_n 2, 1), (2, .iconst 0, 1), (3, .istore_n 3, 1), (4, .iload_n 3, 1), (5, .iload_n 1, 1), (6, .if_icmp .ge 61, 3), (9, .aload_n 0, 1), (10, .invokevirtual 33, 3), (13, .istore 4, 2), (15, .iload 4, 2), (17, .bipush 48, 2), (19, .if_icmp .lt 48, 3), (22, .iload 4, 2), (24, .bipush 57, 2), (26, .if_icmp .le 6, 3), (29, .goto 38, 3), (32, .iload_n 3, 1), (33, .ifCond .ne 7, 3), (36, .iconst 0, 1), (37, .goto 7, 3), (40, .bipush 10, 2), (42, .iload_n 2, 1), (43, .imul, 1), (44, .iload 4, 2), (46, .iadd, 1), (47, .bipush 48, 2), (49, .isub, 1), (50, .istore_n 2, 1), (51, .aload_n 0, 1), (52, .dup, 1), (53, .getfield 19, 3), (56, .iconst 1, 1), (57, .iadd, 1), (58, .putfield 19, 3), (61, .iinc 3 1, 3), (64, .goto (-60), 3), (67, .iload_n 2, 1), (68, .ireturn, 1)]
set_option maxRecDepth 20000 in
theorem DX7_takeNumber : Tab cX7_takeNumber tX7_takeNumber = true := by decide +kernel
def tX7_codeHere : List (Nat × Instr × Nat) := [(0, .aload_n 0, 1), (1, .getfield 19, 3), (4, .ifCond .lt 35, 3), (7, .aload_n 0, 1), (8, .getfield 19, 3), (11, .aload_n 0, 1), (12, .getfield 15, 3), (15, .if_icmp .ge 24, 3), (18, .aload_n 0, 1), (19, .getfield 19, 3), (22, .bipush 70, 2), (24, .if_icmp .ge 15, 3), (27, .aload_n 0, 1), (28, .getfield 9, 3), (31, .aload_n 0, 1), (32, .getfield 19, 3), (35, .iaload, 1), (36, .goto 4, 3), (39, .iconst (-1), 1), (40, .ireturn, 1)]
set_option maxRecDepth 20000 in
theorem DX7_codeHere : Tab cX7_codeHere tX7_codeHere = true := by decide +kernel
def tX8_init : List (Nat × Instr × Nat) := [(0, .aload_n 0, 1), (1, .invokespecial 3, 3), (4, .aload_n 0, 1), (5, .bipush 9, 2), (7, .newarray .int, 2), (9, .putfield 9, 3), (12, .aload_n 0, 1), (13, .bipush 9, 2), (15, .newarray .int, 2), (17, .putfield 15, 3), (20, .aload_n 0, 1), (21, .bipush 9, 2), (23, .newarray .int, 2), (25, .putfield 18, 3), (28, .aload_n 0, 1), (29, .bipush 9, 2), (31, .newarray .int, 2), (33, .putfield 21, 3), (36, .aload_n 0, 1), (37, .bipush 9, 2), (39, .newarray .int, 2), (41, .putfield 24, 3), (44, .aload_n 0, 1), (45, .bipush 9, 2), (47, .newarray .int, 2), (49, .putfield 27, 3), (52, .iconst 0, 1), (53, .istore_n 1, 1), (54, .iload_n 1, 1), (55, .bipush 9, 2), (57, .if_icmp .ge 14, 3), (60, .aload_n 0, 1), (61, .iload_n 1, 1), (62, .invokevirtual 30, 3), (65, .iinc 1 1, 3), (68, .goto (-14), 3), (71, .return_, 1)]
set_option maxRecDepth 20000 in
theorem DX8_init : Tab cX8_init tX8_init = true := by decide +kernel
def tX8_copyFrom : List (Nat × Instr × Nat) := [(0, .iconst 0, 1), (1, .istore_n 2, 1), (2, .iload_n 2, 1), (3, .bipush 9, 2), (5, .if_icmp .ge 16, 3), (8, .aload_n 0, 1), (9, .aload_n 1, 1), (10, .iload_n 2, 1), (11, .iload_n 2, 1), (12, .invokevirtual 34, 3), (15, .iinc 2 1, 3), (18, .goto (-16), 3), (21, .aload_n 0, 1), (22, .aload_n 1, 1), (23, .getfield 38, 3), (26, .putfield 38, 3), (29, .aload_n 0, 1), (30, .aload_n 1, 1), (31, .getfield 42, 3), (34, .putfield 42, 3), (37, .aload_n 0, 1), (38, .aload_n 1, 1), (39, .getfield 45, 3), (42, .putfield 45, 3), (45, .aload_n 0, 1), (46, .aload_n 1, 1), (47, .getfield 48, 3), (50, .putfield 48, 3), (53, .aload_n 0, 1), (54, .aload_n 1, 1), (55, .getfield 51, 3), (58, .putfield 51, 3), (61, .return_, 1)]
set_option maxRecDepth 20000 in
theorem DX8_copyFrom : Tab cX8_copyFrom tX8_copyFrom = true := by decide +kernel
def tX8_isPost : List (Nat × Instr × Nat) := [(0, .iload_n 1, 1), (1, .ifCond .lt 23, 3), (4, .iload_n 1, 1), (5, .bipush 9, 2), (7, .if_icmp .ge 17, 3), (10, .aload_n 0, 1), (11, .getfield 9, 3), (14, .iload_n 1, 1), (15, .iaload, 1), (16, .iconst (-1), 1), (17, .if_icmp .eq 7, 3), (20, .iconst 1, 1), (21, .goto 4, 3), (24, .iconst 0, 1), (25, .ireturn, 1)]
set_option maxRecDepth 20000 in
theorem DX8_isPost : Tab cX8_isPost tX8_isPost = true := by decide +kernel
def tX8_postOn : List (Nat × Instr × Nat) := [(0, .iconst 0, 1), (1, .istore_n 2, 1), (2, .iload_n 2, 1), (3, .bipush 9, 2), (5, .if_icmp .ge 21, 3), (8, .aload_n 0, 1), (9, .getfield 9, 3), (12, .iload_n 2, 1), (13, .iaload, 1), (14, .iload_n 1, 1), (15, .if_icmp .ne 5, 3), (18, .iload_n 2, 1), (19, .ireturn, 1), (20, .iinc 2 1, 3), (23, .goto (-21), 3), (26, .iconst (-1), 1), (27, .ireturn, 1)]
set_option maxRecDepth 20000 in
theorem DX8_postOn : Tab cX8_postOn tX8_postOn = true := by decide +kernel
def tX8_add : List (Nat × Instr × Nat) := [(0, .aload_n 0, 1), (1, .iconst (-1), 1), (2, .invokevirtual 54, 3), (5, .istore 4, 2), (7, .iload 4, 2), (9, .iconst (-1), 1), (10, .if_icmp .eq 47, 3), (13, .aload_n 0, 1), (14, .getfield 9, 3), (17, .iload 4, 2), (19, .iload_n 1, 1), (20, .iastore, 1), (21, .aload_n 0, 1), (22, .getfield 15, 3), (25, .iload 4, 2), (27, .iload_n 2, 1), (28, .iastore, 1), (29, .aload_n 0, 1), (30, .getfield 18, 3), (33, .iload 4, 2), (35, .iload_n 3, 1), (36, .iastore, 1), (37, .aload_n 0, 1), (38, .dup, 1), (39, .getfield 38, 3), (42, .iconst 1, 1), (43, .iadd, 1), (44, .putfield 38, 3), (47, .aload_n 0, 1), (48, .dup, 1), (49, .getfield 45, 3), (52, .iconst 1, 1), (53, .iadd, 1), (54, .putfield 45, 3), (57, .iload 4, 2), (59, .ireturn, 1)]
set_option maxRecDepth 20000 in
theorem DX8_add : Tab cX8_add tX8_add = true := by decide +kernel
def tX8_remove : List (Nat × Instr × Nat) := [(0, .iload_n 1, 1), (1, .istore_n 2, 1), (2, .iload_n 2, 1), (3, .ifCond .lt 24, 3), (6, .iload_n 2, 1), (7, .bipush 8, 2), (9, .if_icmp .ge 18, 3), (12, .aload_n 0, 1), (13, .aload_n 0, 1), (14, .iload_n 2, 1), (15, .iconst 1, 1), (16, .iadd, 1), (17, .iload_n 2, 1), (18, .invokevirtual 34, 3), (21, .iinc 2 1, 3), (24, .goto (-22), 3), (27, .aload_n 0, 1), (28, .bipush 8, 2), (30, .invokevirtual 30, 3), (33, .aload_n 0, 1), (34, .dup, 1), (35, .getfield 38, 3), (38, .iconst 1, 1), (39, .isub, 1), (40, .putfield 38, 3), (43, .aload_n 0, 1), (44, .dup, 1), (45, .getfield 48, 3), (48, .iconst 1, 1), (49, .iadd, 1), (50, .putfield 48, 3), (53, .return_, 1)]
set_option maxRecDepth 20000 in
theorem DX8_remove : Tab cX8_remove tX8_remove = true := by decide +kernel
def tX8_manJust : List (Nat × Instr × Nat) := [(0, .iconst 0, 1), (1, .istore_n 2, 1), (2, .iload_n 2, 1), (3, .bipush 9, 2), (5, .if_icmp .ge 20, 3), (8, .aload_n 0, 1), (9, .getfield 27, 3), (12, .iload_n 2, 1), (13, .iload_n 1, 1), (14, .iload_n 2, 1), (15, .iushr, 1), (16, .iconst 1, 1), (17, .iand, 1), (18, .iastore, 1), (19, .iinc 2 1, 3), (22, .goto (-20), 3), (25, .aload_n 0, 1), (26, .dup, 1), (27, .getfield 51, 3), (30, .iconst 1, 1), (31, .iadd, 1), (32, .putfield 51, 3), (35, .return_, 1)]
set_option maxRecDepth 20000 in
theorem DX8_manJust : Tab cX8_manJust tX8_manJust = true := by decide +kernel
def tX8_numberOf : List (Nat × Instr × Nat) := [(0, .aload_n 0, 1), (1, .iload_n 1, 1), (2, .invokevirtual 58, 3), (5, .ifCond .ne 5, 3), (8, .iconst (-1), 1), (9, .ireturn, 1), (10, .iload_n 2, 1), (11, .tableswitch 68 0 4 #[33, 40, 47, 54, 61], 33), (44, .aload_n 0, 1), (45, .getfield 9, 3), (48, .iload_n 1, 1), (49, .iaload, 1), (50, .ireturn, 1), (51, .aload_n 0, 1), (52, .getfield 15, 3), (55, .iload_n 1, 1), (56, .iaload, 1), (57, .ireturn, 1), (58, .aload_n 0, 1), (59, .getfield 18, 3), (62, .iload_n 1, 1), (63, .iaload, 1), (64, .ireturn, 1), (65, .aload_n 0, 1), (66, .getfield 21, 3), (69, .iload_n 1, 1), (70, .iaload, 1), (71, .ireturn, 1), (72, .aload_n 0, 1), (73, .getfield 24, 3), (76, .iload_n 1, 1), (77, .iaload, 1), (78, .ireturn, 1), (79, .aload_n 0, 1), (80, .getfield 27, 3), (83, .iload_n 1, 1), (84, .iaload, 1), (85, .ireturn, 1)]
set_option maxRecDepth 20000 in
theorem DX8_numberOf : Tab cX8_numberOf tX8_numberOf = true := by decide +kernel
def tX8_accountOf : List (Nat × Instr × Nat) := [(0, .iload_n 1, 1), (1, .tableswitch 42 7 9 #[27, 32, 37], 27), (28, .aload_n 0, 1), (29, .getfield 42, 3), (32, .ireturn, 1), (33, .aload_n 0, 1), (34, .getfield 45, 3), (37, .ireturn, 1), (38, .aload_n 0, 1), (39, .getfield 48, 3), (42, .ireturn, 1), (43, .aload_n 0, 1), (44, .getfield 51, 3), (47, .ireturn, 1)]
set_option maxRecDepth 20000 in
theorem DX8_accountOf : Tab cX8_accountOf tX8_accountOf = true := by decide +kernel
def tX8_sightOf : List (Nat × Instr × Nat) := [(0, .aload_n 0, 1), (1, .iload_n 1, 1), (2, .invokevirtual 58, 3), (5, .ifCond .ne 5, 3), (8, .iconst 0, 1), (9, .ireturn, 1), (10, .iload_n 2, 1), (11, .invokestatic 62, 3), (14, .istore_n 3, 1), (15, .iconst 0, 1), (16, .aload_n 0, 1), (17, .getfield 15, 3), (20, .iload_n 1, 1), (21, .iaload, 1), (22, .iload_n 3, 1), (23, .isub, 1), (24, .invokestatic 65, 3), (27, .istore 4, 2), (29, .iconst 0, 1), (30, .aload_n 0, 1), (31, .getfield 18, 3), (34, .iload_n 1, 1), (35, .iaload, 1), (36, .iload_n 3, 1), (37, .isub, 1), (38, .invokestatic 65, 3), (41, .istore 5, 2), (43, .aload_n 0, 1), (44, .getfield 9, 3), (47, .iload_n 1, 1), (48, .iaload, 1), (49, .iload 4, 2), (51, .isub, 1), (52, .istore 6, 2), (54, .iload 6, 2), (56, .ifCond .ge 11, 3), (59, .iload 6, 2), (61, .bipush 24, 2), (63, .iadd, 1), (64, .goto 5, 3), (67, .iload 6, 2), (69, .iload 4, 2), (71, .iconst 1, 1), (72, .iadd, 1), (73, .iload 5, 2), (75, .iadd, 1), (76, .invokestatic 71, 3), (79, .istore 7, 2), (81, .aload_n 0, 1), (82, .getfield 24, 3), (85, .iload_n 1, 1), (86, .iaload, 1), (87, .ifCond .ne 8, 3), (90, .iload 7, 2), (92, .goto 23, 3), (95, .iload 7, 2), (97, .aload_n 0, 1), (98, .getfield 21, 3), (101, .iload_n 1, 1), (102, .iaload, 1), (103, .aload_n 0, 1), (104, .getfield 24, 3), (107, .iload_n 1, 1), (108, .iaload, 1), (109, .invokestatic 71, 3), (112, .iconst (-1), 1), (113, .ixor, 1), (114, .iand, 1), (115, .ireturn, 1)]
set_option maxRecDepth 20000 in
theorem DX8_sightOf : Tab cX8_sightOf tX8_sightOf = true := by decide +kernel
def tX8_lostByLight : List (Nat × Instr × Nat) := [(0, .iload_n 0, 1), (1, .bipush 6, 2), (3, .if_icmp .ge 5, 3), (6, .iconst 0, 1), (7, .ireturn, 1), (8, .iload_n 0, 1), (9, .bipush 8, 2), (11, .if_icmp .ge 5, 3), (14, .iconst 1, 1), (15, .ireturn, 1), (16, .iload_n 0, 1), (17, .bipush 10, 2), (19, .if_icmp .ge 7, 3), (22, .iconst 2, 1), (23, .goto 4, 3), (26, .iconst 3, 1), (27, .ireturn, 1)]
set_option maxRecDepth 20000 in
theorem DX8_lostByLight : Tab cX8_lostByLight tX8_lostByLight = true := by decide +kernel
def tX8_copyPlace : List (Nat × Instr × Nat) := [(0, .aload_n 0, 1), (1, .getfield 9, 3), (4, .iload_n 3, 1), (5, .aload_n 1, 1), (6, .getfield 9, 3), (9, .iload_n 2, 1), (10, .iaload, 1), (11, .iastore, 1), (12, .aload_n 0, 1), (13, .getfield 15, 3), (16, .iload_n 3, 1), (17, .aload_n 1, 1), (18, .getfield 15, 3), (21, .iload_n 2, 1), (22, .iaload, 1), (23, .iastore, 1), (24, .aload_n 0, 1), (25, .getfield 18, 3), (28, .iload_n 3, 1), (29, .aload_n 1, 1), (30, .getfield 18, 3), (33, .iload_n 2, 1), (34, .iaload, 1), (35, .iastore, 1), (36, .aload_n 0, 1), (37, .getfield 21, 3), (40, .iload_n 3, 1), (41, .aload_n 1, 1), (42, .getfield 21, 3), (45, .iload_n 2, 1), (46, .iaload, 1), (47, .iastore, 1), (48, .aload_n 0, 1), (49, .getfield 24, 3), (52, .iload_n 3, 1), (53, .aload_n 1, 1), (54, .getfield 24, 3), (57, .iload_n 2, 1), (58, .iaload, 1), (59, .iastore, 1), (60, .aload_n 0, 1), (61, .getfield 27, 3), (64, .iload_n 3, 1), (65, .aload_n 1, 1), (66, .getfield 27, 3), (69, .iload_n 2, 1), (70, .iaload, 1), (71, .iastore, 1), (72, .return_, 1)]
set_option maxRecDepth 20000 in
theorem DX8_copyPlace : Tab cX8_copyPlace tX8_copyPlace = true := by decide +kernel
def tX8_empty : List (Nat × Instr × Nat) := [(0, .aload_n 0, 1), (1, .getfield 9, 3), (4, .iload_n 1, 1), (5, .iconst (-1), 1), (6, .iastore, 1), (7, .aload_n 0, 1), (8, .getfield 15, 3), (11, .iload_n 1, 1), (12, .iconst 0, 1), (13, .iastore, 1), (14, .aload_n 0, 1), (15, .getfield 18, 3), (18, .iload_n 1, 1), (19, .iconst 0, 1), (20, .iastore, 1), (21, .aload_n 0, 1), (22, .getfield 21, 3), (25, .iload_n 1, 1), (26, .bipush (-4), 2), (28, .iastore, 1), (29, .aload_n 0, 1), (30, .getfield 24, 3), (33, .iload_n 1, 1), (34, .iconst 0, 1), (35, .iastore, 1), (36, .aload_n 0, 1), (37, .getfield 27, 3), (40, .iload_n 1, 1), (41, .iconst 0, 1), (42, .iastore, 1), (43, .return_, 1)]
set_option maxRecDepth 20000 in
theorem DX8_empty : Tab cX8_empty tX8_empty = true := by decide +kernel
def tX9_init : List (Nat × Instr × Nat) := [(0, .aload_n 0, 1), (1, .invokespecial 1, 3), (4, .aload_n 0, 1), (5, .new 7, 3), (8, .dup, 1), (9, .invokespecial 9, 3), (12, .putfield 10, 3), (15, .aload_n 0, 1), (16, .new 7, 3), (19, .dup, 1), (20, .invokespecial 9, 3), (23, .putfield 16, 3), (26, .aload_n 0, 1), (27, .new 7, 3), (30, .dup, 1), (31, .invokespecial 9, 3), (34, .putfield 19, 3), (37, .aload_n 0, 1), (38, .new 22, 3), (41, .dup, 1), (42, .invokespecial 24, 3), (45, .putfield 25, 3), (48, .aload_n 0, 1), (49, .new 29, 3), (52, .dup, 1), (53, .invokespecial 31, 3), (56, .putfield 32, 3), (59, .aload_n 0, 1), (60, .new 36, 3), (63, .dup, 1), (64, .invokespecial 38, 3), (67, .putfield 39, 3), (70, .aload_n 0, 1), (71, .new 43, 3), (74, .dup, 1), (75, .invokespecial 45, 3), (78, .putfield 46, 3), (81, .aload_n 0, 1), (82, .new 50, 3), (85, .dup, 1), (86, .invokespecial 52, 3), (89, .putfield 53, 3), (92, .aload_n 0, 1), (93, .new 57, 3), (96, .dup, 1), (97, .invokespecial 59, 3), (100, .putfield 60, 3), (103, .aload_n 0, 1), (104, .new 64, 3), (107, .dup, 1), (108, .invokespecial 66, 3), (111, .putfield 67, 3), (114, .aload_n 0, 1), (115, .new 71, 3), (118, .dup, 1), (119, .invokespecial 73, 3), (122, .putfield 74, 3), (125, .aload_n 0, 1), (126, .iconst 0, 1), (127, .putfield 78, 3), (130, .aload_n 0, 1), (131, .bipush (-4), 2), (133, .putfield 82, 3), (136, .return_, 1)]
set_option maxRecDepth 20000 in
theorem DX9_init : Tab cX9_init tX9_init = true := by decide +kernel
def tX9_post : List (Nat × Instr × Nat) := [(0, .aload_n 0, 1), (1, .getfield 16, 3), (4, .aload_n 0, 1), (5, .getfield 10, 3), (8, .invokevirtual 86, 3), (11, .aload_n 0, 1), (12, .aload_n 0, 1), (13, .iload_n 1, 1), (14, .iload_n 2, 1), (15, .iload_n 3, 1), (16, .invokevirtual 90, 3), (19, .invokevirtual 94, 3), (22, .ireturn, 1)]
set_option maxRecDepth 20000 in
theorem DX9_post : Tab cX9_post tX9_post = true := by decide +kernel
def tX9_tear : List (Nat × Instr × Nat) := [(0, .aload_n 0, 1), (1, .getfield 16, 3), (4, .aload_n 0, 1), (5, .getfield 10, 3), (8, .invokevirtual 86, 3), (11, .aload_n 0, 1), (12, .aload_n 0, 1), (13, .iload_n 1, 1), (14, .invokevirtual 98, 3), (17, .invokevirtual 94, 3), (20, .ireturn, 1)]
set_option maxRecDepth 20000 in
theorem DX9_tear : Tab cX9_tear tX9_tear = true := by decide +kernel
def tX9_reach : List (Nat × Instr × Nat) := [(0, .aload_n 0, 1), (1, .getfield 16, 3), (4, .aload_n 0, 1), (5, .getfield 10, 3), (8, .invokevirtual 86, 3), (11, .aload_n 0, 1), (12, .aload_n 0, 1), (13, .iload_n 1, 1), (14, .iload_n 2, 1), (15, .iload_n 3, 1), (16, .invokevirtual 101, 3), (19, .invokevirtual 94, 3), (22, .ireturn, 1)]
set_option maxRecDepth 20000 in
theorem DX9_reach : Tab cX9_reach tX9_reach = true := by decide +kernel
def tX9_blind : List (Nat × Instr × Nat) := [(0, .aload_n 0, 1), (1, .getfield 16, 3), (4, .aload_n 0, 1), (5, .getfield 10, 3), (8, .invokevirtual 86, 3), (11, .aload_n 0, 1), (12, .aload_n 0, 1), (13, .iload_n 1, 1), (14, .iload_n 2, 1), (15, .iload_n 3, 1), (16, .invokevirtual 104, 3), (19, .invokevirtual 94, 3), (22, .istore 4, 2), (24, .iload 4, 2), (26, .ifCond .ge 8, 3), (29, .iload 4, 2), (31, .goto 8, 3), (34, .aload_n 0, 1), (35, .iload_n 1, 1), (36, .invokevirtual 107, 3), (39, .ireturn, 1)]
set_option maxRecDepth 20000 in
theorem DX9_blind : Tab cX9_blind tX9_blind = true := by decide +kernel
def tX9_see : List (Nat × Instr × Nat) := [(0, .aload_n 0, 1), (1, .getfield 16, 3), (4, .aload_n 0, 1), (5, .getfield 10, 3), (8, .invokevirtual 86, 3), (11, .aload_n 0, 1), (12, .aload_n 0, 1), (13, .iload_n 1, 1), (14, .invokevirtual 110, 3), (17, .invokevirtual 94, 3), (20, .istore_n 2, 1), (21, .iload_n 2, 1), (22, .ifCond .ge 7, 3), (25, .iload_n 2, 1), (26, .goto 8, 3), (29, .aload_n 0, 1), (30, .iload_n 1, 1), (31, .invokevirtual 107, 3), (34, .ireturn, 1)]
set_option maxRecDepth 20000 in
theorem DX9_see : Tab cX9_see tX9_see = true := by decide +kernel
def tX9_man : List (Nat × Instr × Nat) := [(0, .aload_n 0, 1), (1, .getfield 16, 3), (4, .aload_n 0, 1), (5, .getfield 10, 3), (8, .invokevirtual 86, 3), (11, .aload_n 0, 1), (12, .aload_n 0, 1), (13, .iload_n 1, 1), (14, .iload_n 2, 1), (15, .invokevirtual 113, 3), (18, .invokevirtual 94, 3), (21, .istore_n 3, 1), (22, .iload_n 3, 1), (23, .ifCond .ge 7, 3), (26, .iload_n 3, 1), (27, .goto 7, 3), (30, .aload_n 0, 1), (31, .invokevirtual 117, 3), (34, .ireturn, 1)]
set_option maxRecDepth 20000 in
theorem DX9_man : Tab cX9_man tX9_man = true := by decide +kernel
def tX9_hour : List (Nat × Instr × Nat) := [(0, .aload_n 0, 1), (1, .getfield 16, 3), (4, .aload_n 0, 1), (5, .getfield 10, 3), (8, .invokevirtual 86, 3), (11, .aload_n 0, 1), (12, .aload_n 0, 1), (13, .iload_n 1, 1), (14, .invokevirtual 121, 3), (17, .invokevirtual 94, 3), (20, .ireturn, 1)]
set_option maxRecDepth 20000 in
theorem DX9_hour : Tab cX9_hour tX9_hour = true := by decide +kernel
def tX9_watch : List (Nat × Instr × Nat) := [(0, .aload_n 0, 1), (1, .getfield 16, 3), (4, .aload_n 0, 1), (5, .getfield 10, 3), (8, .invokevirtual 86, 3), (11, .aload_n 0, 1), (12, .aload_n 0, 1), (13, .invokevirtual 124, 3), (16, .invokevirtual 94, 3), (19, .ireturn, 1)]
set_option maxRecDepth 20000 in
theorem DX9_watch : Tab cX9_watch tX9_watch = true := by decide +kernel
def tX9_postOf : List (Nat × Instr × Nat) := [(0, .aload_n 0, 1), (1, .getfield 10, 3), (4, .iload_n 1, 1), (5, .invokevirtual 127, 3), (8, .ifCond .ne 5, 3), (11, .iconst (-1), 1), (12, .ireturn, 1), (13, .iload_n 2, 1), (14, .ifCond .lt 9, 3), (17, .iload_n 2, 1), (18, .bipush 8, 2), (20, .if_icmp .le 6, 3), (23, .bipush (-2), 2), (25, .ireturn, 1), (26, .iload_n 2, 1), (27, .iconst 5, 1), (28, .if_icmp .gt 13, 3), (31, .aload_n 0, 1), (32, .getfield 10, 3), (35, .iload_n 1, 1), (36, .iload_n 2, 1), (37, .invokevirtual 131, 3), (40, .ireturn, 1), (41, .aload_n 0, 1), (42, .getfield 32, 3), (45, .aload_n 0, 1), (46, .getfield 10, 3), (49, .aload_n 0, 1), (50, .getfield 10, 3), (53, .getfield 134, 3), (56, .invokevirtual 137, 3), (59, .iload_n 2, 1), (60, .bipush 6, 2), (62, .if_icmp .ne 12, 3), (65, .aload_n 0, 1), (66, .getfield 32, 3), (69, .iload_n 1, 1), (70, .invokevirtual 141, 3), (73, .ireturn, 1), (74, .iload_n 2, 1), (75, .bipush 7, 2), (77, .if_icmp .ne 12, 3), (80, .aload_n 0, 1), (81, .getfield 32, 3), (84, .iload_n 1, 1), (85, .invokevirtual 144, 3), (88, .ireturn, 1), (89, .aload_n 0, 1), (90, .getfield 39, 3), (93, .aload_n 0, 1), (94, .getfield 32, 3), (97, .invokevirtual 147, 3), (100, .aload_n 0, 1), (101, .getfield 39, 3), (104, .getfield 151, 3), (107, .iload_n 1, 1), (108, .iushr, 1), (109, .iconst 1, 1), (110, .iand, 1), (111, .ireturn, 1)]
set_option maxRecDepth 20000 in
theorem DX9_postOf : Tab cX9_postOf tX9_postOf = true := by decide +kernel
def tX9_sees : List (Nat × Instr × Nat) := [(0, .aload_n 0, 1), (1, .getfield 10, 3), (4, .iload_n 1, 1), (5, .invokevirtual 127, 3), (8, .ifCond .eq 10, 3), (11, .iload_n 2, 1), (12, .invokestatic 154, 3), (15, .ifCond .ne 5, 3), (18, .iconst (-1), 1), (19, .ireturn, 1), (20, .aload_n 0, 1), (21, .getfield 32, 3), (24, .aload_n 0, 1), (25, .getfield 10, 3), (28, .aload_n 0, 1), (29, .getfield 10, 3), (32, .getfield 134, 3), (35, .invokevirtual 137, 3), (38, .aload_n 0, 1), (39, .getfield 32, 3), (42, .iload_n 1, 1), (43, .invokevirtual 157, 3), (46, .iload_n 2, 1), (47, .iushr, 1), (48, .iconst 1, 1), (49, .iand, 1), (50, .ireturn, 1)]
set_option maxRecDepth 20000 in
theorem DX9_sees : Tab cX9_sees tX9_sees = true := by decide +kernel
def tX9_watched : List (Nat × Instr × Nat) := [(0, .iload_n 1, 1), (1, .invokestatic 154, 3), (4, .ifCond .ne 5, 3), (7, .iconst (-1), 1), (8, .ireturn, 1), (9, .aload_n 0, 1), (10, .getfield 32, 3), (13, .aload_n 0, 1), (14, .getfield 10, 3), (17, .aload_n 0, 1), (18, .getfield 10, 3), (21, .getfield 134, 3), (24, .invokevirtual 137, 3), (27, .aload_n 0, 1), (28, .getfield 32, 3), (31, .iload_n 1, 1), (32, .invokevirtual 160, 3), (35, .aload_n 0, 1), (36, .getfield 32, 3), (39, .getfield 163, 3), (42, .iand, 1), (43, .invokestatic 166, 3), (46, .ireturn, 1)]
set_option maxRecDepth 20000 in
theorem DX9_watched : Tab cX9_watched tX9_watched = true := by decide +kernel
def tX9_seenBy : List (Nat × Instr × Nat) := [(0, .iload_n 1, 1), (1, .invokestatic 154, 3), (4, .ifCond .ne 5, 3), (7, .iconst (-1), 1), (8, .ireturn, 1), (9, .aload_n 0, 1), (10, .getfield 32, 3), (13, .aload_n 0, 1), (14, .getfield 10, 3), (17, .aload_n 0, 1), (18, .getfield 10, 3), (21, .getfield 134, 3), (24, .invokevirtual 137, 3), (27, .aload_n 0, 1), (28, .getfield 32, 3), (31, .iload_n 1, 1), (32, .invokevirtual 160, 3), (35, .ireturn, 1)]
set_option maxRecDepth 20000 in
theorem DX9_seenBy : Tab cX9_seenBy tX9_seenBy = true := by decide +kernel
def tX9_gapOf : List (Nat × Instr × Nat) := [(0, .aload_n 0, 1), (1, .getfield 32, 3), (4, .aload_n 0, 1), (5, .getfield 10, 3), (8, .aload_n 0, 1), (9, .getfield 10, 3), (12, .getfield 134, 3), (15, .invokevirtual 137, 3), (18, .aload_n 0, 1), (19, .getfield 46, 3), (22, .aload_n 0, 1), (23, .getfield 32, 3), (26, .aload_n 0, 1), (27, .getfield 32, 3), (30, .getfield 163, 3), (33, .invokevirtual 171, 3), (36, .invokevirtual 174, 3), (39, .aload_n 0, 1), (40, .getfield 46, 3), (43, .iload_n 1, 1), (44, .invokevirtual 178, 3), (47, .ifCond .ne 5, 3), (50, .iconst (-1), 1), (51, .ireturn, 1), (52, .iload_n 2, 1), (53, .tableswitch 75 0 2 #[27, 36, 45], 27), (80, .aload_n 0, 1), (81, .getfield 46, 3), (84, .iload_n 1, 1), (85, .invokevirtual 181, 3), (88, .ireturn, 1), (89, .aload_n 0, 1), (90, .getfield 46, 3), (93, .iload_n 1, 1), (94, .invokevirtual 184, 3), (97, .ireturn, 1), (98, .aload_n 0, 1), (99, .getfield 32, 3), (102, .sipush 511, 3), (105, .aload_n 0, 1), (106, .getfield 46, 3), (109, .iload_n 1, 1), (110, .invokevirtual 181, 3), (113, .aload_n 0, 1), (114, .getfield 46, 3), (117, .iload_n 1, 1), (118, .invokevirtual 184, 3), (121, .invokestatic 187, 3), (124, .invokevirtual 190, 3), (127, .ireturn, 1), (128, .bipush (-2), 2), (130, .ireturn, 1)]
set_option maxRecDepth 20000 in
theorem DX9_gapOf : Tab cX9_gapOf tX9_gapOf = true := by decide +kernel
def tX9_fewest : List (Nat × Instr × Nat) := [(0, .aload_n 0, 1), (1, .getfield 32, 3), (4, .aload_n 0, 1), (5, .getfield 10, 3), (8, .aload_n 0, 1), (9, .getfield 10, 3), (12, .getfield 134, 3), (15, .invokevirtual 137, 3), (18, .aload_n 0, 1), (19, .getfield 39, 3), (22, .aload_n 0, 1), (23, .getfield 32, 3), (26, .invokevirtual 147, 3), (29, .aload_n 0, 1), (30, .getfield 39, 3), (33, .getfield 193, 3), (36, .ireturn, 1)]
set_option maxRecDepth 20000 in
theorem DX9_fewest : Tab cX9_fewest tX9_fewest = true := by decide +kernel
def tX9_fewestAgain : List (Nat × Instr × Nat) := [(0, .aload_n 0, 1), (1, .getfield 32, 3), (4, .aload_n 0, 1), (5, .getfield 10, 3), (8, .aload_n 0, 1), (9, .getfield 10, 3), (12, .getfield 134, 3), (15, .invokevirtual 137, 3), (18, .aload_n 0, 1), (19, .getfield 39, 3), (22, .aload_n 0, 1), (23, .getfield 32, 3), (26, .invokevirtual 196, 3), (29, .ireturn, 1)]
set_option maxRecDepth 20000 in
theorem DX9_fewestAgain : Tab cX9_fewestAgain tX9_fewestAgain = true := by decide +kernel
def tX9_watches : List (Nat × Instr × Nat) := [(0, .aload_n 0, 1), (1, .getfield 32, 3), (4, .aload_n 0, 1), (5, .getfield 10, 3), (8, .aload_n 0, 1), (9, .getfield 10, 3), (12, .getfield 134, 3), (15, .invokevirtual 137, 3), (18, .aload_n 0, 1), (19, .getfield 39, 3), (22, .aload_n 0, 1), (23, .getfield 32, 3), (26, .invokevirtual 147, 3), (29, .aload_n 0, 1), (30, .getfield 39, 3), (33, .getfield 200, 3), (36, .ireturn, 1)]
set_option maxRecDepth 20000 in
theorem DX9_watches : Tab cX9_watches tX9_watches = true := by decide +kernel
def tX9_isFull : List (Nat × Instr × Nat) := [(0, .iload_n 1, 1), (1, .ifCond .lt 16, 3), (4, .iload_n 1, 1), (5, .iconst 1, 1), (6, .aload_n 0, 1), (7, .getfield 10, 3), (10, .getfield 203, 3), (13, .ishl, 1), (14, .if_icmp .lt 5, 3), (17, .iconst (-1), 1), (18, .ireturn, 1), (19, .aload_n 0, 1), (20, .getfield 32, 3), (23, .aload_n 0, 1), (24, .getfield 10, 3), (27, .aload_n 0, 1), (28, .getfield 10, 3), (31, .getfield 134, 3), (34, .invokevirtual 137, 3), (37, .aload_n 0, 1), (38, .getfield 32, 3), (41, .iload_n 1, 1), (42, .invokevirtual 171, 3), (45, .ldc 206, 2), (47, .if_icmp .ne 7, 3), (50, .iconst 1, 1), (51, .goto 4, 3), (54, .iconst 0, 1), (55, .ireturn, 1)]
set_option maxRecDepth 20000 in
theorem DX9_isFull : Tab cX9_isFull tX9_isFull = true := by decide +kernel
def tX9_spare : List (Nat × Instr × Nat) := [(0, .aload_n 0, 1), (1, .getfield 32, 3), (4, .aload_n 0, 1), (5, .getfield 10, 3), (8, .aload_n 0, 1), (9, .getfield 10, 3), (12, .getfield 134, 3), (15, .invokevirtual 137, 3), (18, .aload_n 0, 1), (19, .getfield 32, 3), (22, .aload_n 0, 1), (23, .getfield 32, 3), (26, .getfield 163, 3), (29, .invokevirtual 171, 3), (32, .istore_n 1, 1), (33, .aload_n 0, 1), (34, .getfield 32, 3), (37, .getfield 163, 3), (40, .istore_n 2, 1), (41, .bipush 8, 2), (43, .istore_n 3, 1), (44, .iload_n 3, 1), (45, .ifCond .lt 34, 3), (48, .iload_n 2, 1), (49, .iconst 1, 1), (50, .iload_n 3, 1), (51, .ishl, 1), (52, .iconst (-1), 1), (53, .ixor, 1), (54, .iand, 1), (55, .istore 4, 2), (57, .aload_n 0, 1), (58, .getfield 32, 3), (61, .iload 4, 2), (63, .invokevirtual 171, 3), (66, .iload_n 1, 1), (67, .if_icmp .ne 6, 3), (70, .iload 4, 2), (72, .istore_n 2, 1), (73, .iinc 3 (-1), 3), (76, .goto (-32), 3), (79, .aload_n 0, 1), (80, .getfield 32, 3), (83, .getfield 163, 3), (86, .invokestatic 166, 3), (89, .iload_n 2, 1), (90, .invokestatic 166, 3), (93, .isub, 1), (94, .ireturn, 1)]
set_option maxRecDepth 20000 in
theorem DX9_spare : Tab cX9_spare tX9_spare = true := by decide +kernel
def tX9_next : List (Nat × Instr × Nat) := [(0, .aload_n 0, 1), (1, .getfield 32, 3), (4, .aload_n 0, 1), (5, .getfield 10, 3), (8, .aload_n 0, 1), (9, .getfield 10, 3), (12, .getfield 134, 3), (15, .invokevirtual 137, 3), (18, .aload_n 0, 1), (19, .aload_n 0, 1), (20, .getfield 32, 3), (23, .getfield 163, 3), (26, .invokevirtual 207, 3), (29, .ireturn, 1)]
set_option maxRecDepth 20000 in
theorem DX9_next : Tab cX9_next tX9_next = true := by decide +kernel
def tX9_greedy : List (Nat × Instr × Nat) := [(0, .aload_n 0, 1), (1, .getfield 32, 3), (4, .aload_n 0, 1), (5, .getfield 10, 3), (8, .aload_n 0, 1), (9, .getfield 10, 3), (12, .getfield 134, 3), (15, .invokevirtual 137, 3), (18, .aload_n 0, 1), (19, .getfield 32, 3), (22, .getfield 163, 3), (25, .istore_n 1, 1), (26, .iconst 0, 1), (27, .istore_n 2, 1), (28, .iload_n 2, 1), (29, .bipush 9, 2), (31, .if_icmp .ge 30, 3), (34, .aload_n 0, 1), (35, .iload_n 1, 1), (36, .invokevirtual 207, 3), (39, .istore_n 3, 1), (40, .iload_n 3, 1), (41, .bipush (-4), 2), (43, .if_icmp .ne 6, 3), (46, .goto 15, 3), (49, .iload_n 1, 1), (50, .iconst 1, 1), (51, .iload_n 3, 1), (52, .ishl, 1), (53, .ior, 1), (54, .istore_n 1, 1), (55, .iinc 2 1, 3), (58, .goto (-30), 3), (61, .iload_n 1, 1), (62, .invokestatic 166, 3), (65, .ireturn, 1)]
set_option maxRecDepth 20000 in
theorem DX9_greedy : Tab cX9_greedy tX9_greedy = true := by decide +kernel
def tX9_wouldNeed : List (Nat × Instr × Nat) := [(0, .iload_n 1, 1), (1, .invokestatic 210, 3), (4, .ifCond .ne 6, 3), (7, .bipush (-2), 2), (9, .ireturn, 1), (10, .aload_n 0, 1), (11, .getfield 32, 3), (14, .aload_n 0, 1), (15, .getfield 10, 3), (18, .iload_n 1, 1), (19, .invokevirtual 137, 3), (22, .aload_n 0, 1), (23, .getfield 39, 3), (26, .aload_n 0, 1), (27, .getfield 32, 3), (30, .invokevirtual 147, 3), (33, .aload_n 0, 1), (34, .getfield 39, 3), (37, .getfield 193, 3), (40, .bipush (-4), 2), (42, .if_icmp .ne 8, 3), (45, .bipush (-4), 2), (47, .goto 13, 3), (50, .aload_n 0, 1), (51, .getfield 39, 3), (54, .getfield 193, 3), (57, .invokestatic 166, 3), (60, .ireturn, 1)]
set_option maxRecDepth 20000 in
theorem DX9_wouldNeed : Tab cX9_wouldNeed tX9_wouldNeed = true := by decide +kernel
def tX9_wouldTurn : List (Nat × Instr × Nat) := [(0, .iload_n 1, 1), (1, .ifCond .lt 9, 3), (4, .iload_n 1, 1), (5, .bipush 24, 2), (7, .if_icmp .lt 6, 3), (10, .bipush (-2), 2), (12, .ireturn, 1), (13, .aload_n 0, 1), (14, .getfield 32, 3), (17, .aload_n 0, 1), (18, .getfield 10, 3), (21, .aload_n 0, 1), (22, .getfield 10, 3), (25, .getfield 134, 3), (28, .invokevirtual 137, 3), (31, .aload_n 0, 1), (32, .getfield 32, 3), (35, .aload_n 0, 1), (36, .getfield 32, 3), (39, .getfield 163, 3), (42, .invokevirtual 171, 3), (45, .iload_n 1, 1), (46, .invokestatic 213, 3), (49, .invokestatic 166, 3), (52, .ireturn, 1)]
set_option maxRecDepth 20000 in
theorem DX9_wouldTurn : Tab cX9_wouldTurn tX9_wouldTurn = true := by decide +kernel
def tX9_ranked : List (Nat × Instr × Nat) := [(0, .iload_n 1, 1), (1, .ifCond .lt 8, 3), (4, .iload_n 1, 1), (5, .iconst 2, 1), (6, .if_icmp .le 6, 3), (9, .bipush (-2), 2), (11, .ireturn, 1), (12, .iload_n 2, 1), (13, .ifCond .lt 14, 3), (16, .iload_n 2, 1), (17, .aload_n 0, 1), (18, .getfield 10, 3), (21, .getfield 203, 3), (24, .if_icmp .lt 5, 3), (27, .iconst (-1), 1), (28, .ireturn, 1), (29, .aload_n 0, 1), (30, .getfield 32, 3), (33, .aload_n 0, 1), (34, .getfield 10, 3), (37, .aload_n 0, 1), (38, .getfield 10, 3), (41, .getfield 134, 3), (44, .invokevirtual 137, 3), (47, .iconst 0, 1), (48, .istore_n 3, 1), (49, .iload_n 3, 1), (50, .bipush 9, 2), (52, .if_icmp .ge 23, 3), (55, .aload_n 0, 1), (56, .getfield 53, 3), (59, .iload_n 3, 1), (60, .aload_n 0, 1), (61, .iload_n 1, 1), (62, .iload_n 3, 1), (63, .invokevirtual 216, 3), (66, .invokevirtual 219, 3), (69, .iinc 3 1, 3), (72, .goto (-23), 3), (75, .aload_n 0, 1), (76, .getfield 53, 3), (79, .iload_n 2, 1), (80, .aload_n 0, 1), (81, .getfield 10, 3), (84, .getfield 203, 3), (87, .invokevirtual 223, 3), (90, .ireturn, 1)]
set_option maxRecDepth 20000 in
theorem DX9_ranked : Tab cX9_ranked tX9_ranked = true := by decide +kernel
def tX9_append : List (Nat × Instr × Nat) := [(0, .iload_n 1, 1), (1, .bipush 32, 2), (3, .if_icmp .lt 9, 3), (6, .iload_n 1, 1), (7, .bipush 126, 2), (9, .if_icmp .le 6, 3), (12, .bipush (-2), 2), (14, .ireturn, 1), (15, .aload_n 0, 1), (16, .getfield 60, 3), (19, .iload_n 1, 1), (20, .invokevirtual 247, 3), (23, .ireturn, 1)]
set_option maxRecDepth 20000 in
theorem DX9_append : Tab cX9_append tX9_append = true := by decide +kernel
def tX9_read : List (Nat × Instr × Nat) := [(0, .aload_n 0, 1), (1, .getfield 60, 3), (4, .invokevirtual 249, 3), (7, .istore_n 1, 1), (8, .iload_n 1, 1), (9, .iconst (-1), 1), (10, .if_icmp .eq 15, 3), (13, .aload_n 0, 1), (14, .getfield 60, 3), (17, .invokevirtual 252, 3), (20, .bipush (-100), 2), (22, .iload_n 1, 1), (23, .isub, 1), (24, .ireturn, 1), (25, .aload_n 0, 1), (26, .getfield 16, 3), (29, .aload_n 0, 1), (30, .getfield 10, 3), (33, .invokevirtual 86, 3), (36, .aload_n 0, 1), (37, .aload_n 0, 1), (38, .invokevirtual 253, 3), (41, .invokevirtual 94, 3), (44, .istore_n 2, 1), (45, .iload_n 2, 1), (46, .ifCond .ge 14, 3), (49, .aload_n 0, 1), (50, .getfield 10, 3), (53, .aload_n 0, 1), (54, .getfield 16, 3), (57, .invokevirtual 86, 3), (60, .aload_n 0, 1), (61, .bipush (-4), 2), (63, .putfield 82, 3), (66, .aload_n 0, 1), (67, .getfield 60, 3), (70, .invokevirtual 252, 3), (73, .iload_n 2, 1), (74, .ireturn, 1)]
set_option maxRecDepth 20000 in
theorem DX9_read : Tab cX9_read tX9_read = true := by decide +kernel
def tX9_account : List (Nat × Instr × Nat) := [(0, .iload_n 1, 1), (1, .ifCond .lt 9, 3), (4, .iload_n 1, 1), (5, .bipush 12, 2), (7, .if_icmp .le 6, 3), (10, .bipush (-2), 2), (12, .ireturn, 1), (13, .iload_n 1, 1), (14, .bipush 11, 2), (16, .if_icmp .ne 11, 3), (19, .aload_n 0, 1), (20, .getfield 60, 3), (23, .getfield 258, 3), (26, .ireturn, 1), (27, .iload_n 1, 1), (28, .bipush 12, 2), (30, .if_icmp .ne 11, 3), (33, .aload_n 0, 1), (34, .getfield 25, 3), (37, .getfield 259, 3), (40, .ireturn, 1), (41, .iload_n 1, 1), (42, .bipush 7, 2), (44, .if_icmp .lt 14, 3), (47, .aload_n 0, 1), (48, .getfield 10, 3), (51, .iload_n 1, 1), (52, .invokevirtual 262, 3), (55, .goto 8, 3), (58, .aload_n 0, 1), (59, .iload_n 1, 1), (60, .invokevirtual 265, 3), (63, .ireturn, 1)]
set_option maxRecDepth 20000 in
theorem DX9_account : Tab cX9_account tX9_account = true := by decide +kernel
def tX9_isWell : List (Nat × Instr × Nat) := [(0, .aload_n 0, 1), (1, .getfield 32, 3), (4, .aload_n 0, 1), (5, .getfield 10, 3), (8, .aload_n 0, 1), (9, .getfield 10, 3), (12, .getfield 134, 3), (15, .invokevirtual 137, 3), (18, .aload_n 0, 1), (19, .getfield 39, 3), (22, .aload_n 0, 1), (23, .getfield 32, 3), (26, .invokevirtual 147, 3), (29, .aload_n 0, 1), (30, .getfield 39, 3), (33, .getfield 193, 3), (36, .istore_n 1, 1), (37, .iload_n 1, 1), (38, .aload_n 0, 1), (39, .getfield 39, 3), (42, .aload_n 0, 1), (43, .getfield 32, 3), (46, .invokevirtual 196, 3), (49, .if_icmp .eq 5, 3), (52, .iconst 0, 1), (53, .ireturn, 1), (54, .iload_n 1, 1), (55, .bipush (-4), 2), (57, .if_icmp .eq 18, 3), (60, .aload_n 0, 1), (61, .getfield 32, 3), (64, .iload_n 1, 1), (65, .invokevirtual 171, 3), (68, .ldc 206, 2), (70, .if_icmp .eq 5, 3), (73, .iconst 0, 1), (74, .ireturn, 1), (75, .aload_n 0, 1), (76, .getfield 32, 3), (79, .aload_n 0, 1), (80, .getfield 32, 3), (83, .getfield 163, 3), (86, .invokevirtual 171, 3), (89, .istore_n 2, 1), (90, .aload_n 0, 1), (91, .getfield 46, 3), (94, .iload_n 2, 1), (95, .invokevirtual 174, 3), (98, .iload_n 2, 1), (99, .invokestatic 166, 3), (102, .aload_n 0, 1), (103, .getfield 46, 3), (106, .invokevirtual 268, 3), (109, .iadd, 1), (110, .bipush 24, 2), (112, .if_icmp .ne 7, 3), (115, .iconst 1, 1), (116, .goto 4, 3), (119, .iconst 0, 1), (120, .ireturn, 1)]
set_option maxRecDepth 20000 in
theorem DX9_isWell : Tab cX9_isWell tX9_isWell = true := by decide +kernel
def tX9_mean : List (Nat × Instr × Nat) := [(0, .aload_n 0, 1), (1, .getfield 32, 3), (4, .aload_n 0, 1), (5, .getfield 10, 3), (8, .aload_n 0, 1), (9, .getfield 10, 3), (12, .getfield 134, 3), (15, .invokevirtual 137, 3), (18, .iconst 0, 1), (19, .istore_n 1, 1), (20, .iconst 0, 1), (21, .istore_n 2, 1), (22, .iload_n 2, 1), (23, .bipush 9, 2), (25, .if_icmp .ge 34, 3), (28, .aload_n 0, 1), (29, .getfield 32, 3), (32, .getfield 163, 3), (35, .iload_n 2, 1), (36, .invokestatic 271, 3), (39, .ifCond .eq 14, 3), (42, .iload_n 1, 1), (43, .aload_n 0, 1), (44, .getfield 32, 3), (47, .iload_n 2, 1), (48, .invokevirtual 141, 3), (51, .iadd, 1), (52, .istore_n 1, 1), (53, .iinc 2 1, 3), (56, .goto (-34), 3), (59, .iload_n 1, 1), (60, .i2f, 1), (61, .ldc_w 275, 3), (64, .fdiv, 1), (65, .invokestatic 276, 3), (68, .ireturn, 1)]
set_option maxRecDepth 20000 in
theorem DX9_mean : Tab cX9_mean tX9_mean = true := by decide +kernel
def tX9_undo : List (Nat × Instr × Nat) := [(0, .aload_n 0, 1), (1, .getfield 25, 3), (4, .getfield 259, 3), (7, .ifCond .gt 6, 3), (10, .bipush (-4), 2), (12, .ireturn, 1), (13, .aload_n 0, 1), (14, .getfield 25, 3), (17, .aload_n 0, 1), (18, .getfield 10, 3), (21, .invokevirtual 280, 3), (24, .aload_n 0, 1), (25, .getfield 25, 3), (28, .getfield 259, 3), (31, .ireturn, 1)]
set_option maxRecDepth 20000 in
theorem DX9_undo : Tab cX9_undo tX9_undo = true := by decide +kernel
def tX9_save : List (Nat × Instr × Nat) := [(0, .aload_n 0, 1), (1, .getfield 19, 3), (4, .aload_n 0, 1), (5, .getfield 10, 3), (8, .invokevirtual 86, 3), (11, .aload_n 0, 1), (12, .iconst 1, 1), (13, .putfield 78, 3), (16, .aload_n 0, 1), (17, .getfield 10, 3), (20, .getfield 203, 3), (23, .ireturn, 1)]
set_option maxRecDepth 20000 in
theorem DX9_save : Tab cX9_save tX9_save = true := by decide +kernel
def tX9_restore : List (Nat × Instr × Nat) := [(0, .aload_n 0, 1), (1, .getfield 78, 3), (4, .ifCond .ne 6, 3), (7, .bipush (-4), 2), (9, .ireturn, 1), (10, .aload_n 0, 1), (11, .getfield 10, 3), (14, .aload_n 0, 1), (15, .getfield 19, 3), (18, .invokevirtual 86, 3), (21, .aload_n 0, 1), (22, .getfield 25, 3), (25, .invokevirtual 283, 3), (28, .aload_n 0, 1), (29, .getfield 10, 3), (32, .getfield 203, 3), (35, .ireturn, 1)]
set_option maxRecDepth 20000 in
theorem DX9_restore : Tab cX9_restore tX9_restore = true := by decide +kernel
def tX9_kept : List (Nat × Instr × Nat) := [(0, .iload_n 1, 1), (1, .ifCond .lt 14, 3), (4, .aload_n 0, 1), (5, .getfield 25, 3), (8, .aload_n 0, 1), (9, .getfield 16, 3), (12, .invokevirtual 286, 3), (15, .iload_n 1, 1), (16, .ireturn, 1)]
set_option maxRecDepth 20000 in
theorem DX9_kept : Tab cX9_kept tX9_kept = true := by decide +kernel
def tX9_refuse : List (Nat × Instr × Nat) := [(0, .aload_n 0, 1), (1, .getfield 74, 3), (4, .iload_n 1, 1), (5, .iload_n 2, 1), (6, .aload_n 0, 1), (7, .getfield 82, 3), (10, .invokevirtual 289, 3), (13, .bipush (-3), 2), (15, .ireturn, 1)]
set_option maxRecDepth 20000 in
theorem DX9_refuse : Tab cX9_refuse tX9_refuse = true := by decide +kernel
def tX9_buildPost : List (Nat × Instr × Nat) := [(0, .iload_n 1, 1), (1, .invokestatic 154, 3), (4, .ifCond .ne 5, 3), (7, .iconst (-1), 1), (8, .ireturn, 1), (9, .iload_n 2, 1), (10, .invokestatic 293, 3), (13, .ifCond .eq 10, 3), (16, .iload_n 3, 1), (17, .invokestatic 293, 3), (20, .ifCond .ne 6, 3), (23, .bipush (-2), 2), (25, .ireturn, 1), (26, .aload_n 0, 1), (27, .getfield 10, 3), (30, .iload_n 1, 1), (31, .invokevirtual 296, 3), (34, .istore 4, 2), (36, .iload 4, 2), (38, .iconst (-1), 1), (39, .if_icmp .eq 11, 3), (42, .aload_n 0, 1), (43, .iconst 2, 1), (44, .iload 4, 2), (46, .invokevirtual 299, 3), (49, .ireturn, 1), (50, .aload_n 0, 1), (51, .getfield 10, 3), (54, .getfield 203, 3), (57, .bipush 9, 2), (59, .if_icmp .lt 11, 3), (62, .aload_n 0, 1), (63, .iconst 1, 1), (64, .bipush 9, 2), (66, .invokevirtual 299, 3), (69, .ireturn, 1), (70, .aload_n 0, 1), (71, .getfield 10, 3), (74, .iload_n 1, 1), (75, .iload_n 2, 1), (76, .iload_n 3, 1), (77, .invokevirtual 302, 3), (80, .ireturn, 1)]
set_option maxRecDepth 20000 in
theorem DX9_buildPost : Tab cX9_buildPost tX9_buildPost = true := by decide +kernel
def tX9_tearDown : List (Nat × Instr × Nat) := [(0, .aload_n 0, 1), (1, .getfield 10, 3), (4, .iload_n 1, 1), (5, .invokevirtual 127, 3), (8, .ifCond .ne 5, 3), (11, .iconst (-1), 1), (12, .ireturn, 1), (13, .aload_n 0, 1), (14, .getfield 10, 3), (17, .iload_n 1, 1), (18, .invokevirtual 305, 3), (21, .aload_n 0, 1), (22, .getfield 10, 3), (25, .getfield 203, 3), (28, .ireturn, 1)]
set_option maxRecDepth 20000 in
theorem DX9_tearDown : Tab cX9_tearDown tX9_tearDown = true := by decide +kernel
def tX9_tellReaches : List (Nat × Instr × Nat) := [(0, .aload_n 0, 1), (1, .getfield 10, 3), (4, .iload_n 1, 1), (5, .invokevirtual 127, 3), (8, .ifCond .ne 5, 3), (11, .iconst (-1), 1), (12, .ireturn, 1), (13, .iload_n 2, 1), (14, .invokestatic 293, 3), (17, .ifCond .eq 10, 3), (20, .iload_n 3, 1), (21, .invokestatic 293, 3), (24, .ifCond .ne 6, 3), (27, .bipush (-2), 2), (29, .ireturn, 1), (30, .aload_n 0, 1), (31, .getfield 10, 3), (34, .getfield 308, 3), (37, .iload_n 1, 1), (38, .iaload, 1), (39, .istore 4, 2), (41, .aload_n 0, 1), (42, .getfield 10, 3), (45, .getfield 312, 3), (48, .iload_n 1, 1), (49, .iaload, 1), (50, .istore 5, 2), (52, .iload 4, 2), (54, .iload_n 2, 1), (55, .if_icmp .ne 16, 3), (58, .iload 5, 2), (60, .iload_n 3, 1), (61, .if_icmp .ne 10, 3), (64, .aload_n 0, 1), (65, .iconst 3, 1), (66, .iload_n 2, 1), (67, .invokevirtual 299, 3), (70, .ireturn, 1), (71, .aload_n 0, 1), (72, .getfield 10, 3), (75, .getfield 308, 3), (78, .iload_n 1, 1), (79, .iload_n 2, 1), (80, .iastore, 1), (81, .aload_n 0, 1), (82, .getfield 10, 3), (85, .getfield 312, 3), (88, .iload_n 1, 1), (89, .iload_n 3, 1), (90, .iastore, 1), (91, .bipush 100, 2), (93, .iload 4, 2), (95, .imul, 1), (96, .iload 5, 2), (98, .iadd, 1), (99, .ireturn, 1)]
set_option maxRecDepth 20000 in
theorem DX9_tellReaches : Tab cX9_tellReaches tX9_tellReaches = true := by decide +kernel
def tX9_tellBlindAngle : List (Nat × Instr × Nat) := [(0, .aload_n 0, 1), (1, .getfield 10, 3), (4, .iload_n 1, 1), (5, .invokevirtual 127, 3), (8, .ifCond .eq 10, 3), (11, .iload_n 2, 1), (12, .invokestatic 154, 3), (15, .ifCond .ne 5, 3), (18, .iconst (-1), 1), (19, .ireturn, 1), (20, .iload_n 3, 1), (21, .iconst 1, 1), (22, .if_icmp .lt 9, 3), (25, .iload_n 3, 1), (26, .bipush 8, 2), (28, .if_icmp .le 6, 3), (31, .bipush (-2), 2), (33, .ireturn, 1), (34, .aload_n 0, 1), (35, .getfield 10, 3), (38, .getfield 315, 3), (41, .iload_n 1, 1), (42, .iaload, 1), (43, .iload_n 2, 1), (44, .if_icmp .ne 23, 3), (47, .aload_n 0, 1), (48, .getfield 10, 3), (51, .getfield 318, 3), (54, .iload_n 1, 1), (55, .iaload, 1), (56, .iload_n 3, 1), (57, .if_icmp .ne 10, 3), (60, .aload_n 0, 1), (61, .iconst 3, 1), (62, .iload_n 2, 1), (63, .invokevirtual 299, 3), (66, .ireturn, 1), (67, .aload_n 0, 1), (68, .getfield 10, 3), (71, .getfield 315, 3), (74, .iload_n 1, 1), (75, .iload_n 2, 1), (76, .iastore, 1), (77, .aload_n 0, 1), (78, .getfield 10, 3), (81, .getfield 318, 3), (84, .iload_n 1, 1), (85, .iload_n 3, 1), (86, .iastore, 1), (87, .iconst 0, 1), (88, .ireturn, 1)]
set_option maxRecDepth 20000 in
theorem DX9_tellBlindAngle : Tab cX9_tellBlindAngle tX9_tellBlindAngle = true := by decide +kernel
def tX9_dropBlindAngle : List (Nat × Instr × Nat) := [(0, .aload_n 0, 1), (1, .getfield 10, 3), (4, .iload_n 1, 1), (5, .invokevirtual 127, 3), (8, .ifCond .ne 5, 3), (11, .iconst (-1), 1), (12, .ireturn, 1), (13, .aload_n 0, 1), (14, .getfield 10, 3), (17, .getfield 318, 3), (20, .iload_n 1, 1), (21, .iaload, 1), (22, .ifCond .ne 10, 3), (25, .aload_n 0, 1), (26, .iconst 5, 1), (27, .iload_n 1, 1), (28, .invokevirtual 299, 3), (31, .ireturn, 1), (32, .aload_n 0, 1), (33, .getfield 10, 3), (36, .getfield 315, 3), (39, .iload_n 1, 1), (40, .bipush (-4), 2), (42, .iastore, 1), (43, .aload_n 0, 1), (44, .getfield 10, 3), (47, .getfield 318, 3), (50, .iload_n 1, 1), (51, .iconst 0, 1), (52, .iastore, 1), (53, .iconst 0, 1), (54, .ireturn, 1)]
set_option maxRecDepth 20000 in
theorem DX9_dropBlindAngle : Tab cX9_dropBlindAngle tX9_dropBlindAngle = true := by decide +kernel
def tX9_letBeManned : List (Nat × Instr × Nat) := [(0, .aload_n 0, 1), (1, .getfield 10, 3), (4, .iload_n 1, 1), (5, .invokevirtual 127, 3), (8, .ifCond .ne 5, 3), (11, .iconst (-1), 1), (12, .ireturn, 1), (13, .iload_n 2, 1), (14, .ifCond .eq 11, 3), (17, .iload_n 2, 1), (18, .iconst 1, 1), (19, .if_icmp .eq 6, 3), (22, .bipush (-2), 2), (24, .ireturn, 1), (25, .aload_n 0, 1), (26, .getfield 10, 3), (29, .getfield 321, 3), (32, .iload_n 1, 1), (33, .iaload, 1), (34, .iload_n 2, 1), (35, .if_icmp .ne 10, 3), (38, .aload_n 0, 1), (39, .iconst 3, 1), (40, .iload_n 2, 1), (41, .invokevirtual 299, 3), (44, .ireturn, 1), (45, .aload_n 0, 1), (46, .getfield 10, 3), (49, .getfield 321, 3), (52, .iload_n 1, 1), (53, .iload_n 2, 1), (54, .iastore, 1), (55, .iconst 0, 1), (56, .ireturn, 1)]
set_option maxRecDepth 20000 in
theorem DX9_letBeManned : Tab cX9_letBeManned tX9_letBeManned = true := by decide +kernel
def tX9_tellHour : List (Nat × Instr × Nat) := [(0, .iload_n 1, 1), (1, .invokestatic 210, 3), (4, .ifCond .ne 6, 3), (7, .bipush (-2), 2), (9, .ireturn, 1), (10, .aload_n 0, 1), (11, .getfield 10, 3), (14, .getfield 134, 3), (17, .istore_n 2, 1), (18, .iload_n 2, 1), (19, .iload_n 1, 1), (20, .if_icmp .ne 10, 3), (23, .aload_n 0, 1), (24, .iconst 3, 1), (25, .iload_n 1, 1), (26, .invokevirtual 299, 3), (29, .ireturn, 1), (30, .aload_n 0, 1), (31, .getfield 10, 3), (34, .iload_n 1, 1), (35, .putfield 134, 3), (38, .iload_n 2, 1), (39, .ireturn, 1)]
set_option maxRecDepth 20000 in
theorem DX9_tellHour : Tab cX9_tellHour tX9_tellHour = true := by decide +kernel
def tX9_manFewest : List (Nat × Instr × Nat) := [(0, .aload_n 0, 1), (1, .getfield 32, 3), (4, .aload_n 0, 1), (5, .getfield 10, 3), (8, .aload_n 0, 1), (9, .getfield 10, 3), (12, .getfield 134, 3), (15, .invokevirtual 137, 3), (18, .aload_n 0, 1), (19, .getfield 39, 3), (22, .aload_n 0, 1), (23, .getfield 32, 3), (26, .invokevirtual 147, 3), (29, .aload_n 0, 1), (30, .getfield 39, 3), (33, .getfield 193, 3), (36, .bipush (-4), 2), (38, .if_icmp .ne 13, 3), (41, .aload_n 0, 1), (42, .iconst 4, 1), (43, .aload_n 0, 1), (44, .invokevirtual 323, 3), (47, .invokevirtual 299, 3), (50, .ireturn, 1), (51, .aload_n 0, 1), (52, .getfield 10, 3), (55, .aload_n 0, 1), (56, .getfield 39, 3), (59, .getfield 193, 3), (62, .invokevirtual 326, 3), (65, .aload_n 0, 1), (66, .getfield 39, 3), (69, .getfield 193, 3), (72, .invokestatic 166, 3), (75, .ireturn, 1)]
set_option maxRecDepth 20000 in
theorem DX9_manFewest : Tab cX9_manFewest tX9_manFewest = true := by decide +kernel
def tX9_carryOutAll : List (Nat × Instr × Nat) := [(0, .aload_n 0, 1), (1, .getfield 60, 3), (4, .invokevirtual 329, 3), (7, .iconst 0, 1), (8, .istore_n 1, 1), (9, .iconst 0, 1), (10, .istore_n 2, 1), (11, .iload_n 2, 1), (12, .bipush 70, 2), (14, .if_icmp .ge 60, 3), (17, .aload_n 0, 1), (18, .getfield 60, 3), (21, .invokevirtual 332, 3), (24, .ifCond .eq 50, 3), (27, .aload_n 0, 1), (28, .iload_n 2, 1), (29, .putfield 82, 3), (32, .aload_n 0, 1), (33, .invokevirtual 336, 3), (36, .istore_n 3, 1), (37, .iload_n 3, 1), (38, .ifCond .ge 17, 3), (41, .iload_n 3, 1), (42, .bipush (-3), 2), (44, .if_icmp .ne 8, 3), (47, .bipush (-3), 2), (49, .goto 5, 3), (52, .bipush (-2), 2), (54, .ireturn, 1), (55, .iinc 1 1, 3), (58, .aload_n 0, 1), (59, .getfield 60, 3), (62, .bipush 59, 2), (64, .invokevirtual 339, 3), (67, .pop, 1), (68, .iinc 2 1, 3), (71, .goto (-60), 3), (74, .iload_n 1, 1), (75, .ireturn, 1)]
set_option maxRecDepth 20000 in
theorem DX9_carryOutAll : Tab cX9_carryOutAll tX9_carryOutAll = true := by decide +kernel
def tX9_carryOut : List (Nat × Instr × Nat) := [(0, .aload_n 0, 1), (1, .getfield 60, 3), (4, .getfield 342, 3), (7, .lookupswitch 226 #[(45, 107), (98, 145), (104, 209), (108, 196), (109, 183), (110, 171), (112, 81), (114, 119), (119, 221)], 81), (88, .aload_n 0, 1), (89, .aload_n 0, 1), (90, .getfield 60, 3), (93, .getfield 345, 3), (96, .aload_n 0, 1), (97, .getfield 60, 3), (100, .getfield 348, 3), (103, .aload_n 0, 1), (104, .getfield 60, 3), (107, .getfield 351, 3), (110, .invokevirtual 90, 3), (113, .ireturn, 1), (114, .aload_n 0, 1), (115, .aload_n 0, 1), (116, .getfield 60, 3), (119, .getfield 345, 3), (122, .invokevirtual 98, 3), (125, .ireturn, 1), (126, .aload_n 0, 1), (127, .aload_n 0, 1), (128, .getfield 60, 3), (131, .getfield 345, 3), (134, .aload_n 0, 1), (135, .getfield 60, 3), (138, .getfield 348, 3), (141, .aload_n 0, 1), (142, .getfield 60, 3), (145, .getfield 351, 3), (148, .invokevirtual 101, 3), (151, .ireturn, 1), (152, .aload_n 0, 1), (153, .aload_n 0, 1), (154, .getfield 60, 3), (157, .getfield 345, 3), (160, .aload_n 0, 1), (161, .getfield 60, 3), (164, .getfield 348, 3), (167, .aload_n 0, 1), (168, .getfield 60, 3), (171, .getfield 351, 3), (174, .invokevirtual 104, 3), (177, .ireturn, 1), (178, .aload_n 0, 1), (179, .aload_n 0, 1), (180, .getfield 60, 3), (183, .getfield 345, 3), (186, .invokevirtual 110, 3), (189, .ireturn, 1), (190, .aload_n 0, 1), (191, .aload_n 0, 1), (192, .getfield 60, 3), (195, .getfield 345, 3), (198, .iconst 1, 1), (199, .invokevirtual 113, 3), (202, .ireturn, 1), (203, .aload_n 0, 1), (204, .aload_n 0, 1), (205, .getfield 60, 3), (208, .getfield 345, 3), (211, .iconst 0, 1), (212, .invokevirtual 113, 3), (215, .ireturn, 1), (216, .aload_n 0, 1), (217, .aload_n 0, 1), (218, .getfield 60, 3), (221, .getfield 345, 3), (224, .invokevirtual 121, 3), (227, .ireturn, 1), (228, .aload_n 0, 1), (229, .invokevirtual 124, 3), (232, .ireturn, 1), (233, .bipush (-2), 2), (235, .ireturn, 1)]
set_option maxRecDepth 20000 in
theorem DX9_carryOut : Tab cX9_carryOut tX9_carryOut = true := by decide +kernel
def tX9_manySeenNow : List (Nat × Instr × Nat) := [(0, .aload_n 0, 1), (1, .getfield 32, 3), (4, .aload_n 0, 1), (5, .getfield 10, 3), (8, .aload_n 0, 1), (9, .getfield 10, 3), (12, .getfield 134, 3), (15, .invokevirtual 137, 3), (18, .aload_n 0, 1), (19, .getfield 32, 3), (22, .iload_n 1, 1), (23, .invokevirtual 141, 3), (26, .ireturn, 1)]
set_option maxRecDepth 20000 in
theorem DX9_manySeenNow : Tab cX9_manySeenNow tX9_manySeenNow = true := by decide +kernel
def tX9_manyWatchedNow : List (Nat × Instr × Nat) := [(0, .aload_n 0, 1), (1, .getfield 32, 3), (4, .aload_n 0, 1), (5, .getfield 10, 3), (8, .aload_n 0, 1), (9, .getfield 10, 3), (12, .getfield 134, 3), (15, .invokevirtual 137, 3), (18, .aload_n 0, 1), (19, .getfield 32, 3), (22, .aload_n 0, 1), (23, .getfield 32, 3), (26, .getfield 163, 3), (29, .invokevirtual 171, 3), (32, .invokestatic 166, 3), (35, .ireturn, 1)]
set_option maxRecDepth 20000 in
theorem DX9_manyWatchedNow : Tab cX9_manyWatchedNow tX9_manyWatchedNow = true := by decide +kernel
def tX9_manyUnseen : List (Nat × Instr × Nat) := [(0, .bipush 24, 2), (2, .aload_n 0, 1), (3, .getfield 32, 3), (6, .sipush 511, 3), (9, .invokevirtual 171, 3), (12, .invokestatic 166, 3), (15, .isub, 1), (16, .ireturn, 1)]
set_option maxRecDepth 20000 in
theorem DX9_manyUnseen : Tab cX9_manyUnseen tX9_manyUnseen = true := by decide +kernel
def tX9_closingMost : List (Nat × Instr × Nat) := [(0, .ldc 206, 2), (2, .aload_n 0, 1), (3, .getfield 32, 3), (6, .iload_n 1, 1), (7, .invokevirtual 171, 3), (10, .iconst (-1), 1), (11, .ixor, 1), (12, .iand, 1), (13, .istore_n 2, 1), (14, .aload_n 0, 1), (15, .getfield 32, 3), (18, .sipush 511, 3), (21, .iload_n 1, 1), (22, .iconst (-1), 1), (23, .ixor, 1), (24, .iand, 1), (25, .iload_n 2, 1), (26, .invokevirtual 190, 3), (29, .ireturn, 1)]
set_option maxRecDepth 20000 in
theorem DX9_closingMost : Tab cX9_closingMost tX9_closingMost = true := by decide +kernel
def tX9_keyOf : List (Nat × Instr × Nat) := [(0, .iload_n 1, 1), (1, .ifCond .ne 12, 3), (4, .aload_n 0, 1), (5, .getfield 32, 3), (8, .iload_n 2, 1), (9, .invokevirtual 141, 3), (12, .ireturn, 1), (13, .iload_n 1, 1), (14, .iconst 1, 1), (15, .if_icmp .ne 16, 3), (18, .aload_n 0, 1), (19, .getfield 10, 3), (22, .iload_n 2, 1), (23, .iconst 0, 1), (24, .invokevirtual 131, 3), (27, .ineg, 1), (28, .goto 11, 3), (31, .aload_n 0, 1), (32, .getfield 32, 3), (35, .iload_n 2, 1), (36, .invokevirtual 144, 3), (39, .ireturn, 1)]
set_option maxRecDepth 20000 in
theorem DX9_keyOf : Tab cX9_keyOf tX9_keyOf = true := by decide +kernel
def tX9_sightAccount : List (Nat × Instr × Nat) := [(0, .aload_n 0, 1), (1, .getfield 32, 3), (4, .aload_n 0, 1), (5, .getfield 10, 3), (8, .aload_n 0, 1), (9, .getfield 10, 3), (12, .getfield 134, 3), (15, .invokevirtual 137, 3), (18, .aload_n 0, 1), (19, .getfield 32, 3), (22, .aload_n 0, 1), (23, .getfield 32, 3), (26, .getfield 163, 3), (29, .invokevirtual 171, 3), (32, .istore_n 2, 1), (33, .aload_n 0, 1), (34, .getfield 46, 3), (37, .iload_n 2, 1), (38, .invokevirtual 174, 3), (41, .iload_n 1, 1), (42, .tableswitch 86 0 5 #[38, 46, 57, 62, 70, 78], 38), (80, .aload_n 0, 1), (81, .getfield 10, 3), (84, .getfield 203, 3), (87, .ireturn, 1), (88, .aload_n 0, 1), (89, .getfield 32, 3), (92, .getfield 163, 3), (95, .invokestatic 166, 3), (98, .ireturn, 1), (99, .iload_n 2, 1), (100, .invokestatic 166, 3), (103, .ireturn, 1), (104, .aload_n 0, 1), (105, .getfield 32, 3), (108, .invokevirtual 354, 3), (111, .ireturn, 1), (112, .aload_n 0, 1), (113, .getfield 46, 3), (116, .getfield 357, 3), (119, .ireturn, 1), (120, .aload_n 0, 1), (121, .getfield 46, 3), (124, .invokevirtual 358, 3), (127, .ireturn, 1), (128, .aload_n 0, 1), (129, .invokevirtual 323, 3), (132, .ireturn, 1)]
set_option maxRecDepth 20000 in
theorem DX9_sightAccount : Tab cX9_sightAccount tX9_sightAccount = true := by decide +kernel
def tX9_isStone : List (Nat × Instr × Nat) := [(0, .iload_n 0, 1), (1, .ifCond .lt 13, 3), (4, .iload_n 0, 1), (5, .bipush 24, 2), (7, .if_icmp .ge 7, 3), (10, .iconst 1, 1), (11, .goto 4, 3), (14, .iconst 0, 1), (15, .ireturn, 1)]
set_option maxRecDepth 20000 in
theorem DX9_isStone : Tab cX9_isStone tX9_isStone = true := by decide +kernel
def tX9_isReach : List (Nat × Instr × Nat) := [(0, .iload_n 0, 1), (1, .ifCond .lt 13, 3), (4, .iload_n 0, 1), (5, .bipush 11, 2), (7, .if_icmp .gt 7, 3), (10, .iconst 1, 1), (11, .goto 4, 3), (14, .iconst 0, 1), (15, .ireturn, 1)]
set_option maxRecDepth 20000 in
theorem DX9_isReach : Tab cX9_isReach tX9_isReach = true := by decide +kernel
def tX9_isHour : List (Nat × Instr × Nat) := [(0, .iload_n 0, 1), (1, .ifCond .lt 13, 3), (4, .iload_n 0, 1), (5, .bipush 11, 2), (7, .if_icmp .gt 7, 3), (10, .iconst 1, 1), (11, .goto 4, 3), (14, .iconst 0, 1), (15, .ireturn, 1)]
set_option maxRecDepth 20000 in
theorem DX9_isHour : Tab cX9_isHour tX9_isHour = true := by decide +kernel
def tX9_isIn : List (Nat × Instr × Nat) := [(0, .iload_n 0, 1), (1, .iload_n 1, 1), (2, .iushr, 1), (3, .iconst 1, 1), (4, .iand, 1), (5, .iconst 1, 1), (6, .if_icmp .ne 7, 3), (9, .iconst 1, 1), (10, .goto 4, 3), (13, .iconst 0, 1), (14, .ireturn, 1)]
set_option maxRecDepth 20000 in
theorem DX9_isIn : Tab cX9_isIn tX9_isIn = true := by decide +kernel
def tX9_turned : List (Nat × Instr × Nat) := [(0, .iload_n 0, 1), (1, .iload_n 1, 1), (2, .ishl, 1), (3, .iload_n 0, 1), (4, .bipush 24, 2), (6, .iload_n 1, 1), (7, .isub, 1), (8, .iushr, 1), (9, .ior, 1), (10, .ldc 206, 2), (12, .iand, 1), (13, .ireturn, 1)]
set_option maxRecDepth 20000 in
theorem DX9_turned : Tab cX9_turned tX9_turned = true := by decide +kernel
def tX9_stretch : List (Nat × Instr × Nat) := [(0, .lconst 1, 1), (1, .iload_n 1, 1), (2, .lshl, 1), (3, .lconst 1, 1), (4, .lsub, 1), (5, .iload_n 0, 1), (6, .lshl, 1), (7, .lstore_n 2, 1), (8, .lload_n 2, 1), (9, .lload_n 2, 1), (10, .bipush 24, 2), (12, .lushr, 1), (13, .lor, 1), (14, .ldc2_w 361, 3), (17, .land, 1), (18, .l2i, 1), (19, .ireturn, 1)]
set_option maxRecDepth 20000 in
theorem DX9_stretch : Tab cX9_stretch tX9_stretch = true := by decide +kernel
def tX9_bitsOf : List (Nat × Instr × Nat) := [(0, .fload_n 0, 1), (1, .fconst 0, 1), (2, .fcmp .l, 1), (3, .ifCond .gt 5, 3), (6, .iconst 0, 1), (7, .ireturn, 1), (8, .fload_n 0, 1), (9, .fstore_n 1, 1), (10, .bipush 127, 2), (12, .istore_n 2, 1), (13, .iconst 0, 1), (14, .istore_n 3, 1), (15, .iload_n 3, 1), (16, .bipush 127, 2), (18, .if_icmp .ge 22, 3), (21, .fload_n 1, 1), (22, .fconst 2, 1), (23, .fcmp .l, 1), (24, .ifCond .lt 16, 3), (27, .fload_n 1, 1), (28, .fconst 2, 1), (29, .fdiv, 1), (30, .fstore_n 1, 1), (31, .iinc 2 1, 3), (34, .iinc 3 1, 3), (37, .goto (-22), 3), (40, .iconst 0, 1), (41, .istore_n 3, 1), (42, .iload_n 3, 1), (43, .bipush 126, 2), (45, .if_icmp .ge 22, 3), (48, .fload_n 1, 1), (49, .fconst 1, 1), (50, .fcmp .g, 1), (51, .ifCond .ge 16, 3), (54, .fload_n 1, 1), (55, .fconst 2, 1), (56, .fmul, 1), (57, .fstore_n 1, 1), (58, .iinc 2 (-1), 3), (61, .iinc 3 1, 3), (64, .goto (-22), 3), (67, .iload_n 2, 1), (68, .bipush 23, 2), (70, .ishl, 1), (71, .fload_n 1, 1), (72, .fconst 1, 1), (73, .fsub, 1), (74, .ldc_w 363, 3), (77, .fmul, 1), (78, .f2i, 1), (79, .ior, 1), (80, .ireturn, 1)]
set_option maxRecDepth 20000 in
theorem DX9_bitsOf : Tab cX9_bitsOf tX9_bitsOf = true := by decide +kernel
def tJ5_init_d00df : List (Nat × Instr × Nat) := [(0, .aload_n 0, 1), (1, .invokespecial 3, 3), (4, .getstatic 18, 3), (7, .ifCond .eq 18, 3), (10, .aload_n 0, 1), (11, .iload_n 1, 1), (12, .newarray .byte, 2), (14, .putfield 15, 3), (17, .aload_n 0, 1), (18, .iconst 0, 1), (19, .putfield 22, 3), (22, .goto 16, 3), (25, .aload_n 0, 1), (26, .iload_n 1, 1), (27, .invokestatic 26, 3), (30, .putfield 15, 3), (33, .aload_n 0, 1), (34, .iconst 1, 1), (35, .putfield 22, 3), (38, .return_, 1)]
set_option maxRecDepth 20000 in
theorem DJ5_init_d00df : Tab cJ5_init_d00df tJ5_init_d00df = true := by decide +kernel
def tJ5_length_8abf5 : List (Nat × Instr × Nat) := [(0, .aload_n 0, 1), (1, .getfield 79, 3), (4, .ireturn, 1)]
set_option maxRecDepth 20000 in
theorem DJ5_length_8abf5 : Tab cJ5_length_8abf5 tJ5_length_8abf5 = true := by decide +kernel
def tJ5_ensureCapacityInternal_d00df : List (Nat × Instr × Nat) := [(0, .aload_n 0, 1), (1, .getfield 15, 3), (4, .arraylength, 1), (5, .aload_n 0, 1), (6, .getfield 22, 3), (9, .ishr, 1), (10, .istore_n 2, 1), (11, .iload_n 1, 1), (12, .iload_n 2, 1), (13, .isub, 1), (14, .ifCond .le 24, 3), (17, .aload_n 0, 1), (18, .aload_n 0, 1), (19, .getfield 15, 3), (22, .aload_n 0, 1), (23, .iload_n 1, 1), (24, .invokevirtual 104, 3), (27, .aload_n 0, 1), (28, .getfield 22, 3), (31, .ishl, 1), (32, .invokestatic 108, 3), (35, .putfield 15, 3), (38, .return_, 1)]
set_option maxRecDepth 20000 in
theorem DJ5_ensureCapacityInternal_d00df : Tab cJ5_ensureCapacityInternal_d00df tJ5_ensureCapacityInternal_d00df = true := by decide +kernel
def tJ5_newCapacity_0f7a4 : List (Nat × Instr × Nat) := [(0, .aload_n 0, 1), (1, .getfield 15, 3), (4, .arraylength, 1), (5, .istore_n 2, 1), (6, .iload_n 1, 1), (7, .aload_n 0, 1), (8, .getfield 22, 3), (11, .ishl, 1), (12, .istore_n 3, 1), (13, .iload_n 3, 1), (14, .iload_n 2, 1), (15, .isub, 1), (16, .istore 4, 2), (18, .iload_n 2, 1), (19, .iload 4, 2), (21, .iload_n 2, 1), (22, .iconst 2, 1), (23, .aload_n 0, 1), (24, .getfield 22, 3), (27, .ishl, 1), (28, .iadd, 1), (29, .invokestatic 114, 3), (32, .istore 5, 2), (34, .iload 5, 2), (36, .ldc 39, 2), (38, .if_icmp .ne 13, 3), (41, .new 120, 3), (44, .dup, 1), (45, .ldc 122, 2), (47, .invokespecial 124, 3), (50, .athrow, 1), (51, .iload 5, 2), (53, .aload_n 0, 1), (54, .getfield 22, 3), (57, .ishr, 1), (58, .ireturn, 1)]
set_option maxRecDepth 20000 in
theorem DJ5_newCapacity_0f7a4 : Tab cJ5_newCapacity_0f7a4 tJ5_newCapacity_0f7a4 = true := by decide +kernel
def tJ5_inflate_da8c8 : List (Nat × Instr × Nat) := [(0, .aload_n 0, 1), (1, .invokevirtual 83, 3), (4, .ifCond .ne 4, 3), (7, .return_, 1), (8, .aload_n 0, 1), (9, .getfield 15, 3), (12, .arraylength, 1), (13, .invokestatic 26, 3), (16, .astore_n 1, 1), (17, .aload_n 0, 1), (18, .getfield 15, 3), (21, .iconst 0, 1), (22, .aload_n 1, 1), (23, .iconst 0, 1), (24, .aload_n 0, 1), (25, .getfield 79, 3), (28, .invokestatic 125, 3), (31, .aload_n 0, 1), (32, .aload_n 1, 1), (33, .putfield 15, 3), (36, .aload_n 0, 1), (37, .iconst 1, 1), (38, .putfield 22, 3), (41, .return_, 1)]
set_option maxRecDepth 20000 in
theorem DJ5_inflate_da8c8 : Tab cJ5_inflate_da8c8 tJ5_inflate_da8c8 = true := by decide +kernel
def tJ5_append_cf1ce : List (Nat × Instr × Nat) := [(0, .aload_n 1, 1), (1, .ifnonnull 8, 3), (4, .aload_n 0, 1), (5, .invokevirtual 204, 3), (8, .areturn, 1), (9, .aload_n 1, 1), (10, .invokevirtual 32, 3), (13, .istore_n 2, 1), (14, .aload_n 0, 1), (15, .aload_n 0, 1), (16, .getfield 79, 3), (19, .iload_n 2, 1), (20, .iadd, 1), (21, .invokevirtual 100, 3), (24, .aload_n 0, 1), (25, .aload_n 0, 1), (26, .getfield 79, 3), (29, .aload_n 1, 1), (30, .invokevirtual 208, 3), (33, .aload_n 0, 1), (34, .dup, 1), (35, .getfield 79, 3), (38, .iload_n 2, 1), (39, .iadd, 1), (40, .putfield 79, 3), (43, .aload_n 0, 1), (44, .areturn, 1)]
set_option maxRecDepth 20000 in
theorem DJ5_append_cf1ce : Tab cJ5_append_cf1ce tJ5_append_cf1ce = true := by decide +kernel
def tJ5_appendNull_278bc : List (Nat × Instr × Nat) := [(0, .aload_n 0, 1), (1, .aload_n 0, 1), (2, .getfield 79, 3), (5, .iconst 4, 1), (6, .iadd, 1), (7, .invokevirtual 100, 3), (10, .aload_n 0, 1), (11, .getfield 79, 3), (14, .istore_n 1, 1), (15, .aload_n 0, 1), (16, .getfield 15, 3), (19, .astore_n 2, 1), (20, .aload_n 0, 1), (21, .invokevirtual 83, 3), (24, .ifCond .eq 38, 3), (27, .aload_n 2, 1), (28, .iload_n 1, 1), (29, .iinc 1 1, 3), (32, .bipush 110, 2), (34, .bastore, 1), (35, .aload_n 2, 1), (36, .iload_n 1, 1), (37, .iinc 1 1, 3), (40, .bipush 117, 2), (42, .bastore, 1), (43, .aload_n 2, 1), (44, .iload_n 1, 1), (45, .iinc 1 1, 3), (48, .bipush 108, 2), (50, .bastore, 1), (51, .aload_n 2, 1), (52, .iload_n 1, 1), (53, .iinc 1 1, 3), (56, .bipush 108, 2), (58, .bastore, 1), (59, .goto 17, 3), (62, .aload_n 2, 1), (63, .iload_n 1, 1), (64, .bipush 110, 2), (66, .bipush 117, 2), (68, .bipush 108, 2), (70, .bipush 108, 2), (72, .invokestatic 226, 3), (75, .istore_n 1, 1), (76, .aload_n 0, 1), (77, .iload_n 1, 1), (78, .putfield 79, 3), (81, .aload_n 0, 1), (82, .areturn, 1)]
set_option maxRecDepth 20000 in
theorem DJ5_appendNull_278bc : Tab cJ5_appendNull_278bc tJ5_appendNull_278bc = true := by decide +kernel
def tJ5_append_c97b9 : List (Nat × Instr × Nat) := [(0, .aload_n 0, 1), (1, .getfield 79, 3), (4, .istore_n 2, 1), (5, .iload_n 2, 1), (6, .iload_n 1, 1), (7, .invokestatic 245, 3), (10, .iadd, 1), (11, .istore_n 3, 1), (12, .aload_n 0, 1), (13, .iload_n 3, 1), (14, .invokevirtual 100, 3), (17, .aload_n 0, 1), (18, .invokevirtual 83, 3), (21, .ifCond .eq 16, 3), (24, .iload_n 1, 1), (25, .iload_n 3, 1), (26, .aload_n 0, 1), (27, .getfield 15, 3), (30, .invokestatic 248, 3), (33, .pop, 1), (34, .goto 14, 3), (37, .iload_n 1, 1), (38, .iload_n 2, 1), (39, .iload_n 3, 1), (40, .aload_n 0, 1), (41, .getfield 15, 3), (44, .invokestatic 251, 3), (47, .pop, 1), (48, .aload_n 0, 1), (49, .iload_n 3, 1), (50, .putfield 79, 3), (53, .aload_n 0, 1), (54, .areturn, 1)]
set_option maxRecDepth 20000 in
theorem DJ5_append_c97b9 : Tab cJ5_append_c97b9 tJ5_append_c97b9 = true := by decide +kernel
def tJ5_getValue_6d5f1 : List (Nat × Instr × Nat) := [(0, .aload_n 0, 1), (1, .getfield 15, 3), (4, .areturn, 1)]
set_option maxRecDepth 20000 in
theorem DJ5_getValue_6d5f1 : Tab cJ5_getValue_6d5f1 tJ5_getValue_6d5f1 = true := by decide +kernel
def tJ5_isLatin1_aae02 : List (Nat × Instr × Nat) := [(0, .getstatic 18, 3), (3, .ifCond .eq 14, 3), (6, .aload_n 0, 1), (7, .getfield 22, 3), (10, .ifCond .ne 7, 3), (13, .iconst 1, 1), (14, .goto 4, 3), (17, .iconst 0, 1), (18, .ireturn, 1)]
set_option maxRecDepth 20000 in
theorem DJ5_isLatin1_aae02 : Tab cJ5_isLatin1_aae02 tJ5_isLatin1_aae02 = true := by decide +kernel
def tJ5_inflateIfNeededFor_a7421 : List (Nat × Instr × Nat) := [(0, .getstatic 18, 3), (3, .ifCond .eq 18, 3), (6, .aload_n 0, 1), (7, .getfield 22, 3), (10, .aload_n 1, 1), (11, .invokevirtual 40, 3), (14, .if_icmp .eq 7, 3), (17, .aload_n 0, 1), (18, .invokevirtual 195, 3), (21, .return_, 1)]
set_option maxRecDepth 20000 in
theorem DJ5_inflateIfNeededFor_a7421 : Tab cJ5_inflateIfNeededFor_a7421 tJ5_inflateIfNeededFor_a7421 = true := by decide +kernel
def tJ5_putStringAt_47b60 : List (Nat × Instr × Nat) := [(0, .aload_n 0, 1), (1, .aload_n 2, 1), (2, .invokevirtual 397, 3), (5, .aload_n 2, 1), (6, .aload_n 0, 1), (7, .getfield 15, 3), (10, .iload_n 1, 1), (11, .aload_n 0, 1), (12, .getfield 22, 3), (15, .invokevirtual 399, 3), (18, .return_, 1)]
set_option maxRecDepth 20000 in
theorem DJ5_putStringAt_47b60 : Tab cJ5_putStringAt_47b60 tJ5_putStringAt_47b60 = true := by decide +kernel
def tJxf58ca_isNaN_12338 : List (Nat × Instr × Nat) := [(0, .fload_n 0, 1), (1, .fload_n 0, 1), (2, .fcmp .l, 1), (3, .ifCond .eq 7, 3), (6, .iconst 1, 1), (7, .goto 4, 3), (10, .iconst 0, 1), (11, .ireturn, 1)]
set_option maxRecDepth 20000 in
theorem DJxf58ca_isNaN_12338 : Tab cJxf58ca_isNaN_12338 tJxf58ca_isNaN_12338 = true := by decide +kernel
def tJxf58ca_floatToIntBits_5c35a : List (Nat × Instr × Nat) := [(0, .fload_n 0, 1), (1, .invokestatic 59, 3), (4, .ifCond .ne 8, 3), (7, .fload_n 0, 1), (8, .invokestatic 74, 3), (11, .ireturn, 1), (12, .ldc 77, 2), (14, .ireturn, 1)]
set_option maxRecDepth 20000 in
theorem DJxf58ca_floatToIntBits_5c35a : Tab cJxf58ca_floatToIntBits_5c35a tJxf58ca_floatToIntBits_5c35a = true := by decide +kernel
def tJ6_getChars_ba4f3 : List (Nat × Instr × Nat) := [(0, .iload_n 1, 1), (1, .istore 5, 2), (3, .iload_n 0, 1), (4, .ifCond .ge 7, 3), (7, .iconst 1, 1), (8, .goto 4, 3), (11, .iconst 0, 1), (12, .istore 6, 2), (14, .iload 6, 2), (16, .ifCond .ne 6, 3), (19, .iload_n 0, 1), (20, .ineg, 1), (21, .istore_n 0, 1), (22, .iload_n 0, 1), (23, .bipush (-100), 2), (25, .if_icmp .gt 47, 3), (28, .iload_n 0, 1), (29, .bipush 100, 2), (31, .idiv, 1), (32, .istore_n 3, 1), (33, .iload_n 3, 1), (34, .bipush 100, 2), (36, .imul, 1), (37, .iload_n 0, 1), (38, .isub, 1), (39, .istore 4, 2), (41, .iload_n 3, 1), (42, .istore_n 0, 1), (43, .aload_n 2, 1), (44, .iinc 5 (-1), 3), (47, .iload 5, 2), (49, .getstatic 83, 3), (52, .iload 4, 2), (54, .baload, 1), (55, .bastore, 1), (56, .aload_n 2, 1), (57, .iinc 5 (-1), 3), (60, .iload 5, 2), (62, .getstatic 87, 3), (65, .iload 4, 2), (67, .baload, 1), (68, .bastore, 1), (69, .goto (-47), 3), (72, .aload_n 2, 1), (73, .iinc 5 (-1), 3), (76, .iload 5, 2), (78, .getstatic 83, 3), (81, .iload_n 0, 1), (82, .ineg, 1), (83, .baload, 1), (84, .bastore, 1), (85, .iload_n 0, 1), (86, .bipush (-9), 2), (88, .if_icmp .ge 16, 3), (91, .aload_n 2, 1), (92, .iinc 5 (-1), 3), (95, .iload 5, 2), (97, .getstatic 87, 3), (100, .iload_n 0, 1), (101, .ineg, 1), (102, .baload, 1), (103, .bastore, 1), (104, .iload 6, 2), (106, .ifCond .eq 12, 3), (109, .aload_n 2, 1), (110, .iinc 5 (-1), 3), (113, .iload 5, 2), (115, .bipush 45, 2), (117, .bastore, 1), (118, .iload 5, 2), (120, .ireturn, 1)]
set_option maxRecDepth 20000 in
theorem DJ6_getChars_ba4f3 : Tab cJ6_getChars_ba4f3 tJ6_getChars_ba4f3 = true := by decide +kernel
def tJ6_stringSize_0f7a4 : List (Nat × Instr × Nat) := [(0, .iconst 1, 1), (1, .istore_n 1, 1), (2, .iload_n 0, 1), (3, .ifCond .lt 8, 3), (6, .iconst 0, 1), (7, .istore_n 1, 1), (8, .iload_n 0, 1), (9, .ineg, 1), (10, .istore_n 0, 1), (11, .bipush (-10), 2), (13, .istore_n 2, 1), (14, .iconst 1, 1), (15, .istore_n 3, 1), (16, .iload_n 3, 1), (17, .bipush 10, 2), (19, .if_icmp .ge 23, 3), (22, .iload_n 0, 1), (23, .iload_n 2, 1), (24, .if_icmp .le 7, 3), (27, .iload_n 3, 1), (28, .iload_n 1, 1), (29, .iadd, 1), (30, .ireturn, 1), (31, .bipush 10, 2), (33, .iload_n 2, 1), (34, .imul, 1), (35, .istore_n 2, 1), (36, .iinc 3 1, 3), (39, .goto (-23), 3), (42, .bipush 10, 2), (44, .iload_n 1, 1), (45, .iadd, 1), (46, .ireturn, 1)]
set_option maxRecDepth 20000 in
theorem DJ6_stringSize_0f7a4 : Tab cJ6_stringSize_0f7a4 tJ6_stringSize_0f7a4 = true := by decide +kernel
def tJ6_bitCount_0f7a4 : List (Nat × Instr × Nat) := [(0, .iload_n 0, 1), (1, .iload_n 0, 1), (2, .iconst 1, 1), (3, .iushr, 1), (4, .ldc_w 265, 3), (7, .iand, 1), (8, .isub, 1), (9, .istore_n 0, 1), (10, .iload_n 0, 1), (11, .ldc_w 266, 3), (14, .iand, 1), (15, .iload_n 0, 1), (16, .iconst 2, 1), (17, .iushr, 1), (18, .ldc_w 266, 3), (21, .iand, 1), (22, .iadd, 1), (23, .istore_n 0, 1), (24, .iload_n 0, 1), (25, .iload_n 0, 1), (26, .iconst 4, 1), (27, .iushr, 1), (28, .iadd, 1), (29, .ldc_w 267, 3), (32, .iand, 1), (33, .istore_n 0, 1), (34, .iload_n 0, 1), (35, .iload_n 0, 1), (36, .bipush 8, 2), (38, .iushr, 1), (39, .iadd, 1), (40, .istore_n 0, 1), (41, .iload_n 0, 1), (42, .iload_n 0, 1), (43, .bipush 16, 2), (45, .iushr, 1), (46, .iadd, 1), (47, .istore_n 0, 1), (48, .iload_n 0, 1), (49, .bipush 63, 2), (51, .iand, 1), (52, .ireturn, 1)]
set_option maxRecDepth 20000 in
theorem DJ6_bitCount_0f7a4 : Tab cJ6_bitCount_0f7a4 tJ6_bitCount_0f7a4 = true := by decide +kernel
def tJ9_max_7cf53 : List (Nat × Instr × Nat) := [(0, .iload_n 0, 1), (1, .iload_n 1, 1), (2, .if_icmp .lt 7, 3), (5, .iload_n 0, 1), (6, .goto 4, 3), (9, .iload_n 1, 1), (10, .ireturn, 1)]
set_option maxRecDepth 20000 in
theorem DJ9_max_7cf53 : Tab cJ9_max_7cf53 tJ9_max_7cf53 = true := by decide +kernel
def tJ9_min_7cf53 : List (Nat × Instr × Nat) := [(0, .iload_n 0, 1), (1, .iload_n 1, 1), (2, .if_icmp .gt 7, 3), (5, .iload_n 0, 1), (6, .goto 4, 3), (9, .iload_n 1, 1), (10, .ireturn, 1)]
set_option maxRecDepth 20000 in
theorem DJ9_min_7cf53 : Tab cJ9_min_7cf53 tJ9_min_7cf53 = true := by decide +kernel
def tJ0_init_81219 : List (Nat × Instr × Nat) := [(0, .aload_n 0, 1), (1, .aload_n 1, 1), (2, .aconst_null, 1), (3, .invokespecial 489, 3), (6, .return_, 1)]
set_option maxRecDepth 20000 in
theorem DJ0_init_81219 : Tab cJ0_init_81219 tJ0_init_81219 = true := by decide +kernel
def tJ0_length_8abf5 : List (Nat × Instr × Nat) := [(0, .aload_n 0, 1), (1, .getfield 9, 3), (4, .arraylength, 1), (5, .aload_n 0, 1), (6, .invokevirtual 335, 3), (9, .ishr, 1), (10, .ireturn, 1)]
set_option maxRecDepth 20000 in
theorem DJ0_length_8abf5 : Tab cJ0_length_8abf5 tJ0_length_8abf5 = true := by decide +kernel
def tJ0_charAt_5068e : List (Nat × Instr × Nat) := [(0, .aload_n 0, 1), (1, .invokevirtual 492, 3), (4, .ifCond .eq 12, 3), (7, .aload_n 0, 1), (8, .getfield 9, 3), (11, .iload_n 1, 1), (12, .invokestatic 495, 3), (15, .ireturn, 1), (16, .aload_n 0, 1), (17, .getfield 9, 3), (20, .iload_n 1, 1), (21, .invokestatic 498, 3), (24, .ireturn, 1)]
set_option maxRecDepth 20000 in
theorem DJ0_charAt_5068e : Tab cJ0_charAt_5068e tJ0_charAt_5068e = true := by decide +kernel
def tJ0_getBytes_840e7 : List (Nat × Instr × Nat) := [(0, .aload_n 0, 1), (1, .invokevirtual 335, 3), (4, .iload_n 3, 1), (5, .if_icmp .ne 23, 3), (8, .aload_n 0, 1), (9, .getfield 9, 3), (12, .iconst 0, 1), (13, .aload_n 1, 1), (14, .iload_n 2, 1), (15, .iload_n 3, 1), (16, .ishl, 1), (17, .aload_n 0, 1), (18, .getfield 9, 3), (21, .arraylength, 1), (22, .invokestatic 212, 3), (25, .goto 18, 3), (28, .aload_n 0, 1), (29, .getfield 9, 3), (32, .iconst 0, 1), (33, .aload_n 1, 1), (34, .iload_n 2, 1), (35, .aload_n 0, 1), (36, .getfield 9, 3), (39, .arraylength, 1), (40, .invokestatic 106, 3), (43, .return_, 1)]
set_option maxRecDepth 20000 in
theorem DJ0_getBytes_840e7 : Tab cJ0_getBytes_840e7 tJ0_getBytes_840e7 = true := by decide +kernel
def tJ0_init_db425 : List (Nat × Instr × Nat) := [(0, .aload_n 0, 1), (1, .invokespecial 1, 3), (4, .aload_n 1, 1), (5, .invokevirtual 552, 3), (8, .astore_n 3, 1), (9, .aload_n 1, 1), (10, .invokevirtual 549, 3), (13, .istore 4, 2), (15, .aload_n 1, 1), (16, .invokevirtual 1047, 3), (19, .ifCond .eq 22, 3), (22, .aload_n 0, 1), (23, .iconst 0, 1), (24, .putfield 15, 3), (27, .aload_n 0, 1), (28, .aload_n 3, 1), (29, .iconst 0, 1), (30, .iload 4, 2), (32, .invokestatic 54, 3), (35, .putfield 9, 3), (38, .goto 59, 3), (41, .getstatic 38, 3), (44, .ifCond .eq 35, 3), (47, .aload_n 1, 1), (48, .getfield 1048, 3), (51, .ifCond .eq 28, 3), (54, .aload_n 0, 1), (55, .aload_n 3, 1), (56, .iconst 0, 1), (57, .iload 4, 2), (59, .invokestatic 1051, 3), (62, .putfield 9, 3), (65, .aload_n 0, 1), (66, .aload_n 0, 1), (67, .getfield 9, 3), (70, .iload 4, 2), (72, .invokestatic 47, 3), (75, .putfield 15, 3), (78, .return_, 1), (79, .aload_n 0, 1), (80, .iconst 1, 1), (81, .putfield 15, 3), (84, .aload_n 0, 1), (85, .aload_n 3, 1), (86, .iconst 0, 1), (87, .iload 4, 2), (89, .iconst 1, 1), (90, .ishl, 1), (91, .invokestatic 54, 3), (94, .putfield 9, 3), (97, .return_, 1)]
set_option maxRecDepth 20000 in
theorem DJ0_init_db425 : Tab cJ0_init_db425 tJ0_init_db425 = true := by decide +kernel
def tJ0_coder_7d493 : List (Nat × Instr × Nat) := [(0, .getstatic 38, 3), (3, .ifCond .eq 10, 3), (6, .aload_n 0, 1), (7, .getfield 15, 3), (10, .goto 4, 3), (13, .iconst 1, 1), (14, .ireturn, 1)]
set_option maxRecDepth 20000 in
theorem DJ0_coder_7d493 : Tab cJ0_coder_7d493 tJ0_coder_7d493 = true := by decide +kernel
def tJ0_isLatin1_aae02 : List (Nat × Instr × Nat) := [(0, .getstatic 38, 3), (3, .ifCond .eq 14, 3), (6, .aload_n 0, 1), (7, .getfield 15, 3), (10, .ifCond .ne 7, 3), (13, .iconst 1, 1), (14, .goto 4, 3), (17, .iconst 0, 1), (18, .ireturn, 1)]
set_option maxRecDepth 20000 in
theorem DJ0_isLatin1_aae02 : Tab cJ0_isLatin1_aae02 tJ0_isLatin1_aae02 = true := by decide +kernel
def tJ0_checkIndex_df160 : List (Nat × Instr × Nat) := [(0, .iload_n 0, 1), (1, .iload_n 1, 1), (2, .getstatic 1053, 3), (5, .invokestatic 1059, 3), (8, .pop, 1), (9, .return_, 1)]
set_option maxRecDepth 20000 in
theorem DJ0_checkIndex_df160 : Tab cJ0_checkIndex_df160 tJ0_checkIndex_df160 = true := by decide +kernel
def tJ0_checkBoundsOffCount_cabcc : List (Nat × Instr × Nat) := [(0, .iload_n 0, 1), (1, .iload_n 1, 1), (2, .iload_n 2, 1), (3, .getstatic 1053, 3), (6, .invokestatic 1065, 3), (9, .ireturn, 1)]
set_option maxRecDepth 20000 in
theorem DJ0_checkBoundsOffCount_cabcc : Tab cJ0_checkBoundsOffCount_cabcc tJ0_checkBoundsOffCount_cabcc = true := by decide +kernel
def tJ0_checkBoundsBeginEnd_23922 : List (Nat × Instr × Nat) := [(0, .iload_n 0, 1), (1, .iload_n 1, 1), (2, .iload_n 2, 1), (3, .getstatic 1053, 3), (6, .invokestatic 1062, 3), (9, .pop, 1), (10, .return_, 1)]
set_option maxRecDepth 20000 in
theorem DJ0_checkBoundsBeginEnd_23922 : Tab cJ0_checkBoundsBeginEnd_23922 tJ0_checkBoundsBeginEnd_23922 = true := by decide +kernel
def tJ4_init_da8c8 : List (Nat × Instr × Nat) := [(0, .aload_n 0, 1), (1, .bipush 16, 2), (3, .invokespecial 1, 3), (6, .return_, 1)]
set_option maxRecDepth 20000 in
theorem DJ4_init_da8c8 : Tab cJ4_init_da8c8 tJ4_init_da8c8 = true := by decide +kernel
def tJ4_append_15ec4 : List (Nat × Instr × Nat) := [(0, .aload_n 0, 1), (1, .aload_n 1, 1), (2, .invokespecial 29, 3), (5, .pop, 1), (6, .aload_n 0, 1), (7, .areturn, 1)]
set_option maxRecDepth 20000 in
theorem DJ4_append_15ec4 : Tab cJ4_append_15ec4 tJ4_append_15ec4 = true := by decide +kernel
def tJ4_append_bf812 : List (Nat × Instr × Nat) := [(0, .aload_n 0, 1), (1, .iload_n 1, 1), (2, .invokespecial 53, 3), (5, .pop, 1), (6, .aload_n 0, 1), (7, .areturn, 1)]
set_option maxRecDepth 20000 in
theorem DJ4_append_bf812 : Tab cJ4_append_bf812 tJ4_append_bf812 = true := by decide +kernel
def tJ4_toString_0e30d : List (Nat × Instr × Nat) := [(0, .new 18, 3), (3, .dup, 1), (4, .aload_n 0, 1), (5, .invokespecial 137, 3), (8, .areturn, 1)]
set_option maxRecDepth 20000 in
theorem DJ4_toString_0e30d : Tab cJ4_toString_0e30d tJ4_toString_0e30d = true := by decide +kernel
def tJ4_length_8abf5 : List (Nat × Instr × Nat) := [(0, .aload_n 0, 1), (1, .invokespecial 343, 3), (4, .ireturn, 1)]
set_option maxRecDepth 20000 in
theorem DJ4_length_8abf5 : Tab cJ4_length_8abf5 tJ4_length_8abf5 = true := by decide +kernel
def tJ1_charAt_3b067 : List (Nat × Instr × Nat) := [(0, .iload_n 1, 1), (1, .aload_n 0, 1), (2, .arraylength, 1), (3, .invokestatic 9, 3), (6, .aload_n 0, 1), (7, .iload_n 1, 1), (8, .baload, 1), (9, .sipush 255, 3), (12, .iand, 1), (13, .i2c, 1), (14, .ireturn, 1)]
set_option maxRecDepth 20000 in
theorem DJ1_charAt_3b067 : Tab cJ1_charAt_3b067 tJ1_charAt_3b067 = true := by decide +kernel
def tJ1_inflate_0e8fd : List (Nat × Instr × Nat) := [(0, .aload_n 0, 1), (1, .iload_n 1, 1), (2, .aload_n 2, 1), (3, .iload_n 3, 1), (4, .iload 4, 2), (6, .invokestatic 240, 3), (9, .return_, 1)]
set_option maxRecDepth 20000 in
theorem DJ1_inflate_0e8fd : Tab cJ1_inflate_0e8fd tJ1_inflate_0e8fd = true := by decide +kernel
def tJ2_newBytesFor_77867 : List (Nat × Instr × Nat) := [(0, .iload_n 0, 1), (1, .invokestatic 11, 3), (4, .newarray .byte, 2), (6, .areturn, 1)]
set_option maxRecDepth 20000 in
theorem DJ2_newBytesFor_77867 : Tab cJ2_newBytesFor_77867 tJ2_newBytesFor_77867 = true := by decide +kernel
def tJ2_newBytesLength_0f7a4 : List (Nat × Instr × Nat) := [(0, .iload_n 0, 1), (1, .ifCond .ge 11, 3), (4, .new 17, 3), (7, .dup, 1), (8, .invokespecial 19, 3), (11, .athrow, 1), (12, .iload_n 0, 1), (13, .ldc 20, 2), (15, .if_icmp .lt 40, 3), (18, .new 21, 3), (21, .dup, 1), (22, .new 23, 3), (25, .dup, 1), (26, .invokespecial 25, 3), (29, .ldc 26, 2), (31, .invokevirtual 28, 3), (34, .iload_n 0, 1), (35, .invokevirtual 32, 3), (38, .ldc 35, 2), (40, .invokevirtual 28, 3), (43, .ldc 20, 2), (45, .invokevirtual 32, 3), (48, .invokevirtual 37, 3), (51, .invokespecial 41, 3), (54, .athrow, 1), (55, .iload_n 0, 1), (56, .iconst 1, 1), (57, .ishl, 1), (58, .ireturn, 1)]
set_option maxRecDepth 20000 in
theorem DJ2_newBytesLength_0f7a4 : Tab cJ2_newBytesLength_0f7a4 tJ2_newBytesLength_0f7a4 = true := by decide +kernel
def tJ2_putChar_b72d1 : List (Nat × Instr × Nat) := [(0, .getstatic 44, 3), (3, .ifCond .ne 25, 3), (6, .iload_n 1, 1), (7, .ifCond .lt 11, 3), (10, .iload_n 1, 1), (11, .aload_n 0, 1), (12, .invokestatic 48, 3), (15, .if_icmp .lt 13, 3), (18, .new 52, 3), (21, .dup, 1), (22, .ldc 54, 2), (24, .invokespecial 56, 3), (27, .athrow, 1), (28, .iload_n 1, 1), (29, .iconst 1, 1), (30, .ishl, 1), (31, .istore_n 1, 1), (32, .aload_n 0, 1), (33, .iload_n 1, 1), (34, .iinc 1 1, 3), (37, .iload_n 2, 1), (38, .getstatic 59, 3), (41, .ishr, 1), (42, .i2b, 1), (43, .bastore, 1), (44, .aload_n 0, 1), (45, .iload_n 1, 1), (46, .iload_n 2, 1), (47, .getstatic 63, 3), (50, .ishr, 1), (51, .i2b, 1), (52, .bastore, 1), (53, .return_, 1)]
set_option maxRecDepth 20000 in
theorem DJ2_putChar_b72d1 : Tab cJ2_putChar_b72d1 tJ2_putChar_b72d1 = true := by decide +kernel
def tJ2_getChar_3b067 : List (Nat × Instr × Nat) := [(0, .getstatic 44, 3), (3, .ifCond .ne 25, 3), (6, .iload_n 1, 1), (7, .ifCond .lt 11, 3), (10, .iload_n 1, 1), (11, .aload_n 0, 1), (12, .invokestatic 48, 3), (15, .if_icmp .lt 13, 3), (18, .new 52, 3), (21, .dup, 1), (22, .ldc 54, 2), (24, .invokespecial 56, 3), (27, .athrow, 1), (28, .iload_n 1, 1), (29, .iconst 1, 1), (30, .ishl, 1), (31, .istore_n 1, 1), (32, .aload_n 0, 1), (33, .iload_n 1, 1), (34, .iinc 1 1, 3), (37, .baload, 1), (38, .sipush 255, 3), (41, .iand, 1), (42, .getstatic 59, 3), (45, .ishl, 1), (46, .aload_n 0, 1), (47, .iload_n 1, 1), (48, .baload, 1), (49, .sipush 255, 3), (52, .iand, 1), (53, .getstatic 63, 3), (56, .ishl, 1), (57, .ior, 1), (58, .i2c, 1), (59, .ireturn, 1)]
set_option maxRecDepth 20000 in
theorem DJ2_getChar_3b067 : Tab cJ2_getChar_3b067 tJ2_getChar_3b067 = true := by decide +kernel
def tJ2_length_9d52b : List (Nat × Instr × Nat) := [(0, .aload_n 0, 1), (1, .arraylength, 1), (2, .iconst 1, 1), (3, .ishr, 1), (4, .ireturn, 1)]
set_option maxRecDepth 20000 in
theorem DJ2_length_9d52b : Tab cJ2_length_9d52b tJ2_length_9d52b = true := by decide +kernel
def tJ2_coderFromArrayLen_85cad : List (Nat × Instr × Nat) := [(0, .iload_n 1, 1), (1, .aload_n 0, 1), (2, .arraylength, 1), (3, .isub, 1), (4, .bipush 31, 2), (6, .iushr, 1), (7, .i2b, 1), (8, .ireturn, 1)]
set_option maxRecDepth 20000 in
theorem DJ2_coderFromArrayLen_85cad : Tab cJ2_coderFromArrayLen_85cad tJ2_coderFromArrayLen_85cad = true := by decide +kernel
def tJ2_compress_39247 : List (Nat × Instr × Nat) := [(0, .iload_n 2, 1), (1, .newarray .byte, 2), (3, .astore_n 3, 1), (4, .aload_n 0, 1), (5, .iload_n 1, 1), (6, .aload_n 3, 1), (7, .iconst 0, 1), (8, .iload_n 2, 1), (9, .invokestatic 123, 3), (12, .istore 4, 2), (14, .iload 4, 2), (16, .iload_n 2, 1), (17, .if_icmp .eq 47, 3), (20, .aload_n 0, 1), (21, .iload_n 1, 1), (22, .iconst 1, 1), (23, .ishl, 1), (24, .iload_n 1, 1), (25, .iload_n 2, 1), (26, .iadd, 1), (27, .invokestatic 11, 3), (30, .invokestatic 126, 3), (33, .astore 5, 2), (35, .aload 5, 2), (37, .iload 4, 2), (39, .invokestatic 71, 3), (42, .sipush 255, 3), (45, .if_icmp .gt 16, 3), (48, .aload 5, 2), (50, .iconst 0, 1), (51, .aload_n 3, 1), (52, .iconst 0, 1), (53, .iload_n 2, 1), (54, .invokestatic 123, 3), (57, .iload_n 2, 1), (58, .if_icmp .eq 6, 3), (61, .aload 5, 2), (63, .areturn, 1), (64, .aload_n 3, 1), (65, .areturn, 1)]
set_option maxRecDepth 20000 in
theorem DJ2_compress_39247 : Tab cJ2_compress_39247 tJ2_compress_39247 = true := by decide +kernel
def tJ2_compress_5af95 : List (Nat × Instr × Nat) := [(0, .iload_n 1, 1), (1, .iload 4, 2), (3, .aload_n 0, 1), (4, .invokestatic 173, 3), (7, .iconst 0, 1), (8, .istore 5, 2), (10, .iload 5, 2), (12, .iload 4, 2), (14, .if_icmp .ge 39, 3), (17, .aload_n 0, 1), (18, .iload_n 1, 1), (19, .invokestatic 71, 3), (22, .istore 6, 2), (24, .iload 6, 2), (26, .sipush 255, 3), (29, .if_icmp .le 6, 3), (32, .iload 5, 2), (34, .ireturn, 1), (35, .aload_n 2, 1), (36, .iload_n 3, 1), (37, .iload 6, 2), (39, .i2b, 1), (40, .bastore, 1), (41, .iinc 1 1, 3), (44, .iinc 3 1, 3), (47, .iinc 5 1, 3), (50, .goto (-40), 3), (53, .iload 4, 2), (55, .ireturn, 1)]
set_option maxRecDepth 20000 in
theorem DJ2_compress_5af95 : Tab cJ2_compress_5af95 tJ2_compress_5af95 = true := by decide +kernel
def tJ2_getChars_46870 : List (Nat × Instr × Nat) := [(0, .iload_n 1, 1), (1, .iload_n 2, 1), (2, .aload_n 3, 1), (3, .invokestatic 96, 3), (6, .iload_n 0, 1), (7, .iload_n 2, 1), (8, .aload_n 3, 1), (9, .invokestatic 393, 3), (12, .istore 4, 2), (14, .getstatic 44, 3), (17, .ifCond .ne 17, 3), (20, .iload_n 1, 1), (21, .iload 4, 2), (23, .if_icmp .eq 11, 3), (26, .new 52, 3), (29, .dup, 1), (30, .invokespecial 66, 3), (33, .athrow, 1), (34, .iload 4, 2), (36, .ireturn, 1)]
set_option maxRecDepth 20000 in
theorem DJ2_getChars_46870 : Tab cJ2_getChars_46870 tJ2_getChars_46870 = true := by decide +kernel
def tJ2_putCharsAt_cd4e5 : List (Nat × Instr × Nat) := [(0, .iload_n 1, 1), (1, .iconst 4, 1), (2, .iadd, 1), (3, .istore 6, 2), (5, .iload_n 1, 1), (6, .iload 6, 2), (8, .aload_n 0, 1), (9, .invokestatic 96, 3), (12, .aload_n 0, 1), (13, .iload_n 1, 1), (14, .iinc 1 1, 3), (17, .iload_n 2, 1), (18, .invokestatic 111, 3), (21, .aload_n 0, 1), (22, .iload_n 1, 1), (23, .iinc 1 1, 3), (26, .iload_n 3, 1), (27, .invokestatic 111, 3), (30, .aload_n 0, 1), (31, .iload_n 1, 1), (32, .iinc 1 1, 3), (35, .iload 4, 2), (37, .invokestatic 111, 3), (40, .aload_n 0, 1), (41, .iload_n 1, 1), (42, .iinc 1 1, 3), (45, .iload 5, 2), (47, .invokestatic 111, 3), (50, .getstatic 44, 3), (53, .ifCond .ne 17, 3), (56, .iload_n 1, 1), (57, .iload 6, 2), (59, .if_icmp .eq 11, 3), (62, .new 52, 3), (65, .dup, 1), (66, .invokespecial 66, 3), (69, .athrow, 1), (70, .iload 6, 2), (72, .ireturn, 1)]
set_option maxRecDepth 20000 in
theorem DJ2_putCharsAt_cd4e5 : Tab cJ2_putCharsAt_cd4e5 tJ2_putCharsAt_cd4e5 = true := by decide +kernel
def tJ2_charAt_3b067 : List (Nat × Instr × Nat) := [(0, .iload_n 1, 1), (1, .aload_n 0, 1), (2, .invokestatic 67, 3), (5, .aload_n 0, 1), (6, .iload_n 1, 1), (7, .invokestatic 71, 3), (10, .ireturn, 1)]
set_option maxRecDepth 20000 in
theorem DJ2_charAt_3b067 : Tab cJ2_charAt_3b067 tJ2_charAt_3b067 = true := by decide +kernel
def tJ2_inflate_0e8fd : List (Nat × Instr × Nat) := [(0, .iload_n 3, 1), (1, .iload 4, 2), (3, .aload_n 2, 1), (4, .invokestatic 173, 3), (7, .iconst 0, 1), (8, .istore 5, 2), (10, .iload 5, 2), (12, .iload 4, 2), (14, .if_icmp .ge 27, 3), (17, .aload_n 2, 1), (18, .iload_n 3, 1), (19, .iinc 3 1, 3), (22, .aload_n 0, 1), (23, .iload_n 1, 1), (24, .iinc 1 1, 3), (27, .baload, 1), (28, .sipush 255, 3), (31, .iand, 1), (32, .invokestatic 111, 3), (35, .iinc 5 1, 3), (38, .goto (-28), 3), (41, .return_, 1)]
set_option maxRecDepth 20000 in
theorem DJ2_inflate_0e8fd : Tab cJ2_inflate_0e8fd tJ2_inflate_0e8fd = true := by decide +kernel
def tJ2_getChars_ba4f3 : List (Nat × Instr × Nat) := [(0, .iload_n 1, 1), (1, .istore 5, 2), (3, .iload_n 0, 1), (4, .ifCond .ge 7, 3), (7, .iconst 1, 1), (8, .goto 4, 3), (11, .iconst 0, 1), (12, .istore 6, 2), (14, .iload 6, 2), (16, .ifCond .ne 6, 3), (19, .iload_n 0, 1), (20, .ineg, 1), (21, .istore_n 0, 1), (22, .iload_n 0, 1), (23, .bipush (-100), 2), (25, .if_icmp .gt 51, 3), (28, .iload_n 0, 1), (29, .bipush 100, 2), (31, .idiv, 1), (32, .istore_n 3, 1), (33, .iload_n 3, 1), (34, .bipush 100, 2), (36, .imul, 1), (37, .iload_n 0, 1), (38, .isub, 1), (39, .istore 4, 2), (41, .iload_n 3, 1), (42, .istore_n 0, 1), (43, .aload_n 2, 1), (44, .iinc 5 (-1), 3), (47, .iload 5, 2), (49, .getstatic 403, 3), (52, .iload 4, 2), (54, .baload, 1), (55, .invokestatic 111, 3), (58, .aload_n 2, 1), (59, .iinc 5 (-1), 3), (62, .iload 5, 2), (64, .getstatic 407, 3), (67, .iload 4, 2), (69, .baload, 1), (70, .invokestatic 111, 3), (73, .goto (-51), 3), (76, .aload_n 2, 1), (77, .iinc 5 (-1), 3), (80, .iload 5, 2), (82, .getstatic 403, 3), (85, .iload_n 0, 1), (86, .ineg, 1), (87, .baload, 1), (88, .invokestatic 111, 3), (91, .iload_n 0, 1), (92, .bipush (-9), 2), (94, .if_icmp .ge 18, 3), (97, .aload_n 2, 1), (98, .iinc 5 (-1), 3), (101, .iload 5, 2), (103, .getstatic 407, 3), (106, .iload_n 0, 1), (107, .ineg, 1), (108, .baload, 1), (109, .invokestatic 111, 3), (112, .iload 6, 2), (114, .ifCond .eq 14, 3), (117, .aload_n 2, 1), (118, .iinc 5 (-1), 3), (121, .iload 5, 2), (123, .bipush 45, 2), (125, .invokestatic 111, 3), (128, .iload 5, 2), (130, .ireturn, 1)]
set_option maxRecDepth 20000 in
theorem DJ2_getChars_ba4f3 : Tab cJ2_getChars_ba4f3 tJ2_getChars_ba4f3 = true := by decide +kernel
def tJ2_checkIndex_2214a : List (Nat × Instr × Nat) := [(0, .iload_n 0, 1), (1, .aload_n 1, 1), (2, .invokestatic 48, 3), (5, .invokestatic 414, 3), (8, .return_, 1)]
set_option maxRecDepth 20000 in
theorem DJ2_checkIndex_2214a : Tab cJ2_checkIndex_2214a tJ2_checkIndex_2214a = true := by decide +kernel
def tJ2_checkBoundsBeginEnd_d044e : List (Nat × Instr × Nat) := [(0, .iload_n 0, 1), (1, .iload_n 1, 1), (2, .aload_n 2, 1), (3, .invokestatic 48, 3), (6, .invokestatic 241, 3), (9, .return_, 1)]
set_option maxRecDepth 20000 in
theorem DJ2_checkBoundsBeginEnd_d044e : Tab cJ2_checkBoundsBeginEnd_d044e tJ2_checkBoundsBeginEnd_d044e = true := by decide +kernel
def tJ2_checkBoundsOffCount_d044e : List (Nat × Instr × Nat) := [(0, .iload_n 0, 1), (1, .iload_n 1, 1), (2, .aload_n 2, 1), (3, .invokestatic 48, 3), (6, .invokestatic 419, 3), (9, .pop, 1), (10, .return_, 1)]
set_option maxRecDepth 20000 in
theorem DJ2_checkBoundsOffCount_d044e : Tab cJ2_checkBoundsOffCount_d044e tJ2_checkBoundsOffCount_d044e = true := by decide +kernel
def tJ7_copyOf_9075b : List (Nat × Instr × Nat) := [(0, .iload_n 1, 1), (1, .aload_n 0, 1), (2, .arraylength, 1), (3, .if_icmp .ne 11, 3), (6, .aload_n 0, 1), (7, .invokevirtual 310, 3), (10, .checkcast 311, 3), (13, .areturn, 1), (14, .iload_n 1, 1), (15, .newarray .byte, 2), (17, .astore_n 2, 1), (18, .aload_n 0, 1), (19, .iconst 0, 1), (20, .aload_n 2, 1), (21, .iconst 0, 1), (22, .aload_n 0, 1), (23, .arraylength, 1), (24, .iload_n 1, 1), (25, .invokestatic 304, 3), (28, .invokestatic 150, 3), (31, .aload_n 2, 1), (32, .areturn, 1)]
set_option maxRecDepth 20000 in
theorem DJ7_copyOf_9075b : Tab cJ7_copyOf_9075b tJ7_copyOf_9075b = true := by decide +kernel
def tJ7_checkLength_df160 : List (Nat × Instr × Nat) := [(0, .iload_n 1, 1), (1, .iload_n 0, 1), (2, .if_icmp .ge 35, 3), (5, .new 43, 3), (8, .dup, 1), (9, .new 45, 3), (12, .dup, 1), (13, .invokespecial 47, 3), (16, .iload_n 0, 1), (17, .invokevirtual 54, 3), (20, .ldc_w 337, 3), (23, .invokevirtual 50, 3), (26, .iload_n 1, 1), (27, .invokevirtual 54, 3), (30, .invokevirtual 61, 3), (33, .invokespecial 65, 3), (36, .athrow, 1), (37, .return_, 1)]
set_option maxRecDepth 20000 in
theorem DJ7_checkLength_df160 : Tab cJ7_checkLength_df160 tJ7_checkLength_df160 = true := by decide +kernel
def tJ7_copyOfRange_39247 : List (Nat × Instr × Nat) := [(0, .iload_n 1, 1), (1, .ifCond .ne 9, 3), (4, .iload_n 2, 1), (5, .aload_n 0, 1), (6, .arraylength, 1), (7, .if_icmp .eq 10, 3), (10, .aload_n 0, 1), (11, .iload_n 1, 1), (12, .iload_n 2, 1), (13, .invokestatic 339, 3), (16, .areturn, 1), (17, .aload_n 0, 1), (18, .invokevirtual 310, 3), (21, .checkcast 311, 3), (24, .areturn, 1)]
set_option maxRecDepth 20000 in
theorem DJ7_copyOfRange_39247 : Tab cJ7_copyOfRange_39247 tJ7_copyOfRange_39247 = true := by decide +kernel
def tJ7_copyOfRangeByte_39247 : List (Nat × Instr × Nat) := [(0, .iload_n 1, 1), (1, .iload_n 2, 1), (2, .invokestatic 343, 3), (5, .iload_n 2, 1), (6, .iload_n 1, 1), (7, .isub, 1), (8, .istore_n 3, 1), (9, .iload_n 3, 1), (10, .newarray .byte, 2), (12, .astore 4, 2), (14, .aload_n 0, 1), (15, .iload_n 1, 1), (16, .aload 4, 2), (18, .iconst 0, 1), (19, .aload_n 0, 1), (20, .arraylength, 1), (21, .iload_n 1, 1), (22, .isub, 1), (23, .iload_n 3, 1), (24, .invokestatic 304, 3), (27, .invokestatic 150, 3), (30, .aload 4, 2), (32, .areturn, 1)]
set_option maxRecDepth 20000 in
theorem DJ7_copyOfRangeByte_39247 : Tab cJ7_copyOfRangeByte_39247 tJ7_copyOfRangeByte_39247 = true := by decide +kernel
def tJ8_newLength_cabcc : List (Nat × Instr × Nat) := [(0, .iload_n 0, 1), (1, .iload_n 1, 1), (2, .iload_n 2, 1), (3, .invokestatic 194, 3), (6, .iadd, 1), (7, .istore_n 3, 1), (8, .iconst 0, 1), (9, .iload_n 3, 1), (10, .if_icmp .ge 11, 3), (13, .iload_n 3, 1), (14, .ldc 200, 2), (16, .if_icmp .gt 5, 3), (19, .iload_n 3, 1), (20, .ireturn, 1), (21, .iload_n 0, 1), (22, .iload_n 1, 1), (23, .invokestatic 201, 3), (26, .ireturn, 1)]
set_option maxRecDepth 20000 in
theorem DJ8_newLength_cabcc : Tab cJ8_newLength_cabcc tJ8_newLength_cabcc = true := by decide +kernel
def tJ8_hugeLength_7cf53 : List (Nat × Instr × Nat) := [(0, .iload_n 0, 1), (1, .iload_n 1, 1), (2, .iadd, 1), (3, .istore_n 2, 1), (4, .iload_n 2, 1), (5, .ifCond .ge 44, 3), (8, .new 204, 3), (11, .dup, 1), (12, .new 89, 3), (15, .dup, 1), (16, .invokespecial 91, 3), (19, .ldc 206, 2), (21, .invokevirtual 94, 3), (24, .iload_n 0, 1), (25, .invokevirtual 98, 3), (28, .ldc 208, 2), (30, .invokevirtual 94, 3), (33, .iload_n 1, 1), (34, .invokevirtual 98, 3), (37, .ldc 210, 2), (39, .invokevirtual 94, 3), (42, .invokevirtual 101, 3), (45, .invokespecial 212, 3), (48, .athrow, 1), (49, .iload_n 2, 1), (50, .ldc 200, 2), (52, .if_icmp .gt 6, 3), (55, .ldc 200, 2), (57, .ireturn, 1), (58, .iload_n 2, 1), (59, .ireturn, 1)]
set_option maxRecDepth 20000 in
theorem DJ8_hugeLength_7cf53 : Tab cJ8_hugeLength_7cf53 tJ8_hugeLength_7cf53 = true := by decide +kernel
def tJ3_checkIndex_8e157 : List (Nat × Instr × Nat) := [(0, .iload_n 0, 1), (1, .ifCond .lt 8, 3), (4, .iload_n 0, 1), (5, .iload_n 1, 1), (6, .if_icmp .lt 10, 3), (9, .aload_n 2, 1), (10, .iload_n 0, 1), (11, .iload_n 1, 1), (12, .invokestatic 95, 3), (15, .athrow, 1), (16, .iload_n 0, 1), (17, .ireturn, 1)]
set_option maxRecDepth 20000 in
theorem DJ3_checkIndex_8e157 : Tab cJ3_checkIndex_8e157 tJ3_checkIndex_8e157 = true := by decide +kernel
def tJ3_checkFromToIndex_8c36e : List (Nat × Instr × Nat) := [(0, .iload_n 0, 1), (1, .ifCond .lt 13, 3), (4, .iload_n 0, 1), (5, .iload_n 1, 1), (6, .if_icmp .gt 8, 3), (9, .iload_n 1, 1), (10, .iload_n 2, 1), (11, .if_icmp .le 11, 3), (14, .aload_n 3, 1), (15, .iload_n 0, 1), (16, .iload_n 1, 1), (17, .iload_n 2, 1), (18, .invokestatic 99, 3), (21, .athrow, 1), (22, .iload_n 0, 1), (23, .ireturn, 1)]
set_option maxRecDepth 20000 in
theorem DJ3_checkFromToIndex_8c36e : Tab cJ3_checkFromToIndex_8c36e tJ3_checkFromToIndex_8c36e = true := by decide +kernel
def tJ3_checkFromIndexSize_8c36e : List (Nat × Instr × Nat) := [(0, .iload_n 2, 1), (1, .iload_n 0, 1), (2, .ior, 1), (3, .iload_n 1, 1), (4, .ior, 1), (5, .ifCond .lt 10, 3), (8, .iload_n 1, 1), (9, .iload_n 2, 1), (10, .iload_n 0, 1), (11, .isub, 1), (12, .if_icmp .le 11, 3), (15, .aload_n 3, 1), (16, .iload_n 0, 1), (17, .iload_n 1, 1), (18, .iload_n 2, 1), (19, .invokestatic 103, 3), (22, .athrow, 1), (23, .iload_n 0, 1), (24, .ireturn, 1)]
set_option maxRecDepth 20000 in
theorem DJ3_checkFromIndexSize_8c36e : Tab cJ3_checkFromIndexSize_8c36e tJ3_checkFromIndexSize_8c36e = true := by decide +kernel
def tL_cell : List (Nat × Instr × Nat) := [(0, .ldc 7, 2), (2, .iload_n 1, 1), (3, .aload_n 0, 1), (4, .arraylength, 1), (5, .if_icmp .ge 9, 3), (8, .aload_n 0, 1), (9, .iload_n 1, 1), (10, .iaload, 1), (11, .goto 4, 3), (14, .iconst 0, 1), (15, .sipush 1009, 3), (18, .iload_n 1, 1), (19, .imul, 1), (20, .iadd, 1), (21, .imul, 1), (22, .sipush 12345, 3), (25, .iadd, 1), (26, .istore_n 2, 1), (27, .iload_n 2, 1), (28, .iload_n 2, 1), (29, .bipush 13, 2), (31, .iushr, 1), (32, .ixor, 1), (33, .ldc 8, 2), (35, .imul, 1), (36, .istore_n 2, 1), (37, .iload_n 2, 1), (38, .iload_n 2, 1), (39, .bipush 16, 2), (41, .iushr, 1), (42, .ixor, 1), (43, .ireturn, 1)]
set_option maxRecDepth 20000 in
theorem DL_cell : Tab cL_cell tL_cell = true := by decide +kernel
def tL_in : List (Nat × Instr × Nat) := [(0, .aload_n 0, 1), (1, .iload_n 1, 1), (2, .invokestatic 9, 3), (5, .ldc 15, 2), (7, .iand, 1), (8, .iload_n 2, 1), (9, .irem, 1), (10, .ireturn, 1)]
set_option maxRecDepth 20000 in
theorem DL_in : Tab cL_in tL_in = true := by decide +kernel
def tL_reads : List (Nat × Instr × Nat) := [(0, .iconst 0, 1), (1, .istore_n 2, 1), (2, .iconst 0, 1), (3, .istore_n 3, 1), (4, .iload_n 3, 1), (5, .aload_n 1, 1), (6, .invokevirtual 16, 3), (9, .if_icmp .ge 21, 3), (12, .iload_n 2, 1), (13, .aload_n 0, 1), (14, .aload_n 1, 1), (15, .iload_n 3, 1), (16, .invokevirtual 22, 3), (19, .invokevirtual 26, 3), (22, .iadd, 1), (23, .istore_n 2, 1), (24, .iinc 3 1, 3), (27, .goto (-23), 3), (30, .iload_n 2, 1), (31, .ifCond .ge 8, 3), (34, .bipush (-99), 2), (36, .goto 7, 3), (39, .aload_n 0, 1), (40, .invokevirtual 32, 3), (43, .ireturn, 1)]
set_option maxRecDepth 20000 in
theorem DL_reads : Tab cL_reads tL_reads = true := by decide +kernel
def tL_begun : List (Nat × Instr × Nat) := [(0, .new 27, 3), (3, .dup, 1), (4, .invokespecial 35, 3), (7, .astore_n 1, 1), (8, .iconst 0, 1), (9, .istore_n 2, 1), (10, .iconst 0, 1), (11, .istore_n 3, 1), (12, .iload_n 3, 1), (13, .bipush 6, 2), (15, .if_icmp .ge 43, 3), (18, .iload_n 2, 1), (19, .aload_n 1, 1), (20, .aload_n 0, 1), (21, .iload_n 3, 1), (22, .bipush 24, 2), (24, .invokestatic 36, 3), (27, .aload_n 0, 1), (28, .bipush 6, 2), (30, .iload_n 3, 1), (31, .iadd, 1), (32, .bipush 12, 2), (34, .invokestatic 36, 3), (37, .aload_n 0, 1), (38, .bipush 12, 2), (40, .iload_n 3, 1), (41, .iadd, 1), (42, .bipush 12, 2), (44, .invokestatic 36, 3), (47, .invokevirtual 40, 3), (50, .iadd, 1), (51, .istore_n 2, 1), (52, .iinc 3 1, 3), (55, .goto (-43), 3), (58, .iconst 0, 1), (59, .istore_n 3, 1), (60, .iload_n 3, 1), (61, .iconst 4, 1), (62, .if_icmp .ge 82, 3), (65, .iload_n 2, 1), (66, .aload_n 1, 1), (67, .aload_n 0, 1), (68, .bipush 18, 2), (70, .iload_n 3, 1), (71, .iadd, 1), (72, .bipush 6, 2), (74, .invokestatic 36, 3), (77, .iconst 1, 1), (78, .invokevirtual 44, 3), (81, .iadd, 1), (82, .istore_n 2, 1), (83, .iload_n 2, 1), (84, .aload_n 0, 1), (85, .bipush 22, 2), (87, .iload_n 3, 1), (88, .iadd, 1), (89, .iconst 2, 1), (90, .invokestatic 36, 3), (93, .ifCond .ne 42, 3), (96, .aload_n 1, 1), (97, .aload_n 0, 1), (98, .bipush 26, 2), (100, .iload_n 3, 1), (101, .iadd, 1), (102, .bipush 6, 2), (104, .invokestatic 36, 3), (107, .aload_n 0, 1), (108, .bipush 30, 2), (110, .iload_n 3, 1), (111, .iadd, 1), (112, .bipush 24, 2), (114, .invokestatic 36, 3), (117, .iconst 1, 1), (118, .aload_n 0, 1), (119, .bipush 34, 2), (121, .iload_n 3, 1), (122, .iadd, 1), (123, .bipush 8, 2), (125, .invokestatic 36, 3), (128, .iadd, 1), (129, .invokevirtual 48, 3), (132, .goto 4, 3), (135, .iconst 0, 1), (136, .iadd, 1), (137, .istore_n 2, 1), (138, .iinc 3 1, 3), (141, .goto (-81), 3), (144, .iload_n 2, 1), (145, .aload_n 0, 1), (146, .bipush 38, 2), (148, .iconst 2, 1), (149, .invokestatic 36, 3), (152, .ifCond .ne 18, 3), (155, .aload_n 1, 1), (156, .aload_n 0, 1), (157, .bipush 39, 2), (159, .bipush 12, 2), (161, .invokestatic 36, 3), (164, .invokevirtual 51, 3), (167, .goto 4, 3), (170, .iconst 0, 1), (171, .iadd, 1), (172, .istore_n 2, 1), (173, .iload_n 2, 1), (174, .ldc 54, 2), (176, .if_icmp .ge 7, 3), (179, .aconst_null, 1), (180, .goto 4, 3), (183, .aload_n 1, 1), (184, .areturn, 1)]
set_option maxRecDepth 20000 in
theorem DL_begun : Tab cL_begun tL_begun = true := by decide +kernel
def tL_does : List (Nat × Instr × Nat) := [(0, .aload_n 1, 1), (1, .iload_n 2, 1), (2, .iconst 1, 1), (3, .iadd, 1), (4, .bipush 10, 2), (6, .invokestatic 36, 3), (9, .istore_n 3, 1), (10, .aload_n 1, 1), (11, .iload_n 2, 1), (12, .iconst 2, 1), (13, .iadd, 1), (14, .bipush 25, 2), (16, .invokestatic 36, 3), (19, .istore 4, 2), (21, .aload_n 1, 1), (22, .iload_n 2, 1), (23, .iconst 3, 1), (24, .iadd, 1), (25, .bipush 13, 2), (27, .invokestatic 36, 3), (30, .istore 5, 2), (32, .aload_n 1, 1), (33, .iload_n 2, 1), (34, .bipush 16, 2), (36, .invokestatic 36, 3), (39, .tableswitch 239 0 12 #[65, 65, 75, 81, 81, 94, 94, 104, 110, 110, 120, 127, 127], 65), (104, .aload_n 0, 1), (105, .iload 4, 2), (107, .iload 5, 2), (109, .iload_n 3, 1), (110, .invokevirtual 40, 3), (113, .ireturn, 1), (114, .aload_n 0, 1), (115, .iload_n 3, 1), (116, .invokevirtual 55, 3), (119, .ireturn, 1), (120, .aload_n 0, 1), (121, .iload_n 3, 1), (122, .iload 5, 2), (124, .iload 4, 2), (126, .bipush 13, 2), (128, .irem, 1), (129, .invokevirtual 58, 3), (132, .ireturn, 1), (133, .aload_n 0, 1), (134, .iload_n 3, 1), (135, .iload 4, 2), (137, .iload 5, 2), (139, .invokevirtual 48, 3), (142, .ireturn, 1), (143, .aload_n 0, 1), (144, .iload_n 3, 1), (145, .invokevirtual 61, 3), (148, .ireturn, 1), (149, .aload_n 0, 1), (150, .iload_n 3, 1), (151, .iload 5, 2), (153, .iconst 2, 1), (154, .irem, 1), (155, .invokevirtual 44, 3), (158, .ireturn, 1), (159, .aload_n 0, 1), (160, .iload 5, 2), (162, .invokevirtual 51, 3), (165, .ireturn, 1), (166, .aload_n 0, 1), (167, .new 64, 3), (170, .dup, 1), (171, .invokespecial 66, 3), (174, .ldc 67, 2), (176, .invokevirtual 69, 3), (179, .iload 4, 2), (181, .invokevirtual 72, 3), (184, .ldc 75, 2), (186, .invokevirtual 69, 3), (189, .iload 5, 2), (191, .bipush 12, 2), (193, .irem, 1), (194, .invokevirtual 72, 3), (197, .ldc 77, 2), (199, .invokevirtual 69, 3), (202, .iload_n 3, 1), (203, .invokevirtual 72, 3), (206, .iload 5, 2), (208, .iconst 3, 1), (209, .irem, 1), (210, .ifCond .ne 8, 3), (213, .ldc 79, 2), (215, .goto 53, 3), (218, .iload 5, 2), (220, .iconst 3, 1), (221, .irem, 1), (222, .iconst 1, 1), (223, .if_icmp .ne 25, 3), (226, .new 64, 3), (229, .dup, 1), (230, .invokespecial 66, 3), (233, .ldc 81, 2), (235, .invokevirtual 69, 3), (238, .iload_n 3, 1), (239, .invokevirtual 72, 3), (242, .invokevirtual 83, 3), (245, .goto 23, 3), (248, .new 64, 3), (251, .dup, 1), (252, .invokespecial 66, 3), (255, .ldc 87, 2), (257, .invokevirtual 69, 3), (260, .iload 5, 2), (262, .invokevirtual 72, 3), (265, .invokevirtual 83, 3), (268, .invokevirtual 69, 3), (271, .invokevirtual 83, 3), (274, .invokestatic 89, 3), (277, .ireturn, 1), (278, .aload_n 0, 1), (279, .invokevirtual 93, 3), (282, .ireturn, 1)]
set_option maxRecDepth 20000 in
theorem DL_does : Tab cL_does tL_does = true := by decide +kernel
def tL_seen : List (Nat × Instr × Nat) := [(0, .bipush 100, 2), (2, .newarray .int, 2), (4, .astore_n 1, 1), (5, .iconst 0, 1), (6, .istore_n 2, 1), (7, .iload_n 2, 1), (8, .bipush 11, 2), (10, .if_icmp .ge 17, 3), (13, .aload_n 1, 1), (14, .iload_n 2, 1), (15, .aload_n 0, 1), (16, .iload_n 2, 1), (17, .invokevirtual 96, 3), (20, .iastore, 1), (21, .iinc 2 1, 3), (24, .goto (-17), 3), (27, .iconst 0, 1), (28, .istore_n 2, 1), (29, .iload_n 2, 1), (30, .aload_n 0, 1), (31, .iconst 0, 1), (32, .invokevirtual 96, 3), (35, .if_icmp .ge 40, 3), (38, .iconst 0, 1), (39, .istore_n 3, 1), (40, .iload_n 3, 1), (41, .bipush 8, 2), (43, .if_icmp .ge 26, 3), (46, .aload_n 1, 1), (47, .bipush 12, 2), (49, .bipush 8, 2), (51, .iload_n 2, 1), (52, .imul, 1), (53, .iadd, 1), (54, .iload_n 3, 1), (55, .iadd, 1), (56, .aload_n 0, 1), (57, .iload_n 2, 1), (58, .iload_n 3, 1), (59, .invokevirtual 99, 3), (62, .iastore, 1), (63, .iinc 3 1, 3), (66, .goto (-26), 3), (69, .iinc 2 1, 3), (72, .goto (-43), 3), (75, .aload_n 1, 1), (76, .areturn, 1)]
set_option maxRecDepth 20000 in
theorem DL_seen : Tab cL_seen tL_seen = true := by decide +kernel
def tL_areAlike : List (Nat × Instr × Nat) := [(0, .iconst 0, 1), (1, .istore_n 2, 1), (2, .iload_n 2, 1), (3, .aload_n 0, 1), (4, .arraylength, 1), (5, .if_icmp .ge 20, 3), (8, .aload_n 0, 1), (9, .iload_n 2, 1), (10, .iaload, 1), (11, .aload_n 1, 1), (12, .iload_n 2, 1), (13, .iaload, 1), (14, .if_icmp .eq 5, 3), (17, .iconst 0, 1), (18, .ireturn, 1), (19, .iinc 2 1, 3), (22, .goto (-20), 3), (25, .iconst 1, 1), (26, .ireturn, 1)]
set_option maxRecDepth 20000 in
theorem DL_areAlike : Tab cL_areAlike tL_areAlike = true := by decide +kernel
def tL_should : List (Nat × Instr × Nat) := [(0, .aload_n 0, 1), (1, .bipush 7, 2), (3, .invokevirtual 96, 3), (6, .istore_n 3, 1), (7, .iload_n 3, 1), (8, .bipush 6, 2), (10, .if_icmp .ge 7, 3), (13, .iconst 0, 1), (14, .goto 8, 3), (17, .iload_n 3, 1), (18, .iconst 4, 1), (19, .isub, 1), (20, .iconst 2, 1), (21, .idiv, 1), (22, .istore 4, 2), (24, .iload_n 2, 1), (25, .aload_n 0, 1), (26, .iload_n 1, 1), (27, .iconst 0, 1), (28, .invokevirtual 99, 3), (31, .isub, 1), (32, .bipush 24, 2), (34, .iadd, 1), (35, .bipush 24, 2), (37, .irem, 1), (38, .istore 5, 2), (40, .aload_n 0, 1), (41, .iload_n 1, 1), (42, .iconst 0, 1), (43, .invokevirtual 99, 3), (46, .iload_n 2, 1), (47, .isub, 1), (48, .bipush 24, 2), (50, .iadd, 1), (51, .bipush 24, 2), (53, .irem, 1), (54, .istore 6, 2), (56, .iload_n 2, 1), (57, .aload_n 0, 1), (58, .iload_n 1, 1), (59, .iconst 0, 1), (60, .invokevirtual 99, 3), (63, .if_icmp .eq 31, 3), (66, .iload 5, 2), (68, .aload_n 0, 1), (69, .iload_n 1, 1), (70, .iconst 2, 1), (71, .invokevirtual 99, 3), (74, .iload 4, 2), (76, .isub, 1), (77, .if_icmp .le 17, 3), (80, .iload 6, 2), (82, .aload_n 0, 1), (83, .iload_n 1, 1), (84, .iconst 1, 1), (85, .invokevirtual 99, 3), (88, .iload 4, 2), (90, .isub, 1), (91, .if_icmp .gt 7, 3), (94, .iconst 1, 1), (95, .goto 4, 3), (98, .iconst 0, 1), (99, .istore 7, 2), (101, .aload_n 0, 1), (102, .iload_n 1, 1), (103, .iconst 3, 1), (104, .invokevirtual 99, 3), (107, .istore 8, 2), (109, .iload 7, 2), (111, .ifCond .eq 31, 3), (114, .iload 8, 2), (116, .ifCond .lt 22, 3), (119, .iload_n 2, 1), (120, .iload 8, 2), (122, .isub, 1), (123, .bipush 24, 2), (125, .iadd, 1), (126, .bipush 24, 2), (128, .irem, 1), (129, .aload_n 0, 1), (130, .iload_n 1, 1), (131, .iconst 4, 1), (132, .invokevirtual 99, 3), (135, .if_icmp .lt 7, 3), (138, .iconst 1, 1), (139, .goto 4, 3), (142, .iconst 0, 1), (143, .ireturn, 1)]
set_option maxRecDepth 20000 in
theorem DL_should : Tab cL_should tL_should = true := by decide +kernel
def tL_isWell : List (Nat × Instr × Nat) := [(0, .aload_n 0, 1), (1, .iconst 0, 1), (2, .invokevirtual 96, 3), (5, .istore_n 1, 1), (6, .iconst 0, 1), (7, .istore_n 2, 1), (8, .iconst 0, 1), (9, .istore_n 3, 1), (10, .iconst 0, 1), (11, .istore 4, 2), (13, .iconst 0, 1), (14, .istore 5, 2), (16, .iconst 0, 1), (17, .istore 6, 2), (19, .iconst 0, 1), (20, .istore 7, 2), (22, .iload 7, 2), (24, .iload_n 1, 1), (25, .if_icmp .ge 21, 3), (28, .iload 5, 2), (30, .aload_n 0, 1), (31, .iload 7, 2), (33, .iconst 5, 1), (34, .invokevirtual 99, 3), (37, .iadd, 1), (38, .istore 5, 2), (40, .iinc 7 1, 3), (43, .goto (-21), 3), (46, .iconst 0, 1), (47, .istore 7, 2), (49, .iload 7, 2), (51, .bipush 24, 2), (53, .if_icmp .ge 180, 3), (56, .iconst 0, 1), (57, .istore 8, 2), (59, .iconst 0, 1), (60, .istore 9, 2), (62, .iconst 0, 1), (63, .istore 10, 2), (65, .iload 10, 2), (67, .iload_n 1, 1), (68, .if_icmp .ge 86, 3), (71, .aload_n 0, 1), (72, .iload 10, 2), (74, .iload 7, 2), (76, .invokestatic 102, 3), (79, .istore 11, 2), (81, .aload_n 0, 1), (82, .iload 10, 2), (84, .iload 7, 2), (86, .invokevirtual 106, 3), (89, .iload 11, 2), (91, .ifCond .eq 7, 3), (94, .iconst 1, 1), (95, .goto 4, 3), (98, .iconst 0, 1), (99, .if_icmp .eq 5, 3), (102, .iconst 0, 1), (103, .ireturn, 1), (104, .iload 8, 2), (106, .iload 11, 2), (108, .ifCond .eq 10, 3), (111, .iconst 1, 1), (112, .iload 10, 2), (114, .ishl, 1), (115, .goto 4, 3), (118, .iconst 0, 1), (119, .ior, 1), (120, .istore 8, 2), (122, .iload 9, 2), (124, .iload 11, 2), (126, .ifCond .eq 18, 3), (129, .aload_n 0, 1), (130, .iload 10, 2), (132, .iconst 5, 1), (133, .invokevirtual 99, 3), (136, .iconst 1, 1), (137, .if_icmp .ne 7, 3), (140, .iconst 1, 1), (141, .goto 4, 3), (144, .iconst 0, 1), (145, .iadd, 1), (146, .istore 9, 2), (148, .iinc 10 1, 3), (151, .goto (-86), 3), (154, .aload_n 0, 1), (155, .iload 7, 2), (157, .invokevirtual 109, 3), (160, .iload 8, 2), (162, .if_icmp .ne 14, 3), (165, .aload_n 0, 1), (166, .iload 7, 2), (168, .invokevirtual 112, 3), (171, .iload 9, 2), (173, .if_icmp .eq 5, 3), (176, .iconst 0, 1), (177, .ireturn, 1), (178, .iload_n 2, 1), (179, .iload 9, 2), (181, .ifCond .le 7, 3), (184, .iconst 1, 1), (185, .goto 4, 3), (188, .iconst 0, 1), (189, .iadd, 1), (190, .istore_n 2, 1), (191, .iload_n 3, 1), (192, .iload 9, 2), (194, .iconst 1, 1), (195, .if_icmp .le 7, 3), (198, .iconst 1, 1), (199, .goto 4, 3), (202, .iconst 0, 1), (203, .iadd, 1), (204, .istore_n 3, 1), (205, .iload 4, 2), (207, .iload 8, 2), (209, .ifCond .ne 7, 3), (212, .iconst 1, 1), (213, .goto 4, 3), (216, .iconst 0, 1), (217, .iadd, 1), (218, .istore 4, 2), (220, .iload 6, 2), (222, .iload 9, 2), (224, .iadd, 1), (225, .istore 6, 2), (227, .iinc 7 1, 3), (230, .goto (-181), 3), (233, .iconst 0, 1), (234, .istore 7, 2), (236, .iload 7, 2), (238, .iload_n 1, 1), (239, .if_icmp .ge 95, 3), (242, .iconst 0, 1), (243, .istore 8, 2), (245, .iconst 0, 1), (246, .istore 9, 2), (248, .iconst 0, 1), (249, .istore 10, 2), (251, .iload 10, 2), (253, .bipush 24, 2), (255, .if_icmp .ge 45, 3), (258, .iload 8, 2), (260, .aload_n 0, 1), (261, .iload 7, 2), (263, .iload 10, 2), (265, .invokevirtual 106, 3), (268, .iadd, 1), (269, .istore 8, 2), (271, .iload 9, 2), (273, .aload_n 0, 1), (274, .iload 10, 2), (276, .invokevirtual 109, 3), (279, .iconst 1, 1), (280, .iload 7, 2), (282, .ishl, 1), (283, .if_icmp .ne 7, 3), (286, .iconst 1, 1), (287, .goto 4, 3), (290, .iconst 0, 1), (291, .iadd, 1), (292, .istore 9, 2), (294, .iinc 10 1, 3), (297, .goto (-46), 3), (300, .aload_n 0, 1), (301, .iload 7, 2), (303, .bipush 6, 2), (305, .invokevirtual 99, 3), (308, .iload 8, 2), (310, .if_icmp .ne 16, 3), (313, .aload_n 0, 1), (314, .iload 7, 2), (316, .bipush 7, 2), (318, .invokevirtual 99, 3), (321, .iload 9, 2), (323, .if_icmp .eq 5, 3), (326, .iconst 0, 1), (327, .ireturn, 1), (328, .iinc 7 1, 3), (331, .goto (-95), 3), (334, .aload_n 0, 1), (335, .iconst 4, 1), (336, .invokevirtual 96, 3), (339, .istore 7, 2), (341, .iconst 0, 1), (342, .istore 8, 2), (344, .iconst 0, 1), (345, .istore 9, 2), (347, .iconst (-1), 1), (348, .istore 10, 2), (350, .iconst 0, 1), (351, .istore 11, 2), (353, .iload 11, 2), (355, .iload 7, 2), (357, .if_icmp .ge 132, 3), (360, .aload_n 0, 1), (361, .iload 11, 2), (363, .iconst 0, 1), (364, .invokevirtual 115, 3), (367, .istore 12, 2), (369, .aload_n 0, 1), (370, .iload 11, 2), (372, .iconst 1, 1), (373, .invokevirtual 115, 3), (376, .istore 13, 2), (378, .iload 8, 2), (380, .iload 13, 2), (382, .invokestatic 118, 3), (385, .istore 8, 2), (387, .iload 9, 2), (389, .iload 13, 2), (391, .iadd, 1), (392, .istore 9, 2), (394, .iload 12, 2), (396, .iload 10, 2), (398, .if_icmp .le 46, 3), (401, .iload 13, 2), (403, .iconst 1, 1), (404, .if_icmp .lt 40, 3), (407, .iload 13, 2), (409, .bipush 24, 2), (411, .if_icmp .ge 35, 3), (414, .aload_n 0, 1), (415, .iload 12, 2), (417, .bipush 23, 2), (419, .iadd, 1), (420, .bipush 24, 2), (422, .irem, 1), (423, .invokevirtual 112, 3), (426, .ifCond .eq 18, 3), (429, .aload_n 0, 1), (430, .iload 12, 2), (432, .iload 13, 2), (434, .iadd, 1), (435, .bipush 24, 2), (437, .irem, 1), (438, .invokevirtual 112, 3), (441, .ifCond .ne 5, 3), (444, .iconst 0, 1), (445, .ireturn, 1), (446, .iconst 0, 1), (447, .istore 14, 2), (449, .iload 14, 2), (451, .iload 13, 2), (453, .if_icmp .ge 26, 3), (456, .aload_n 0, 1), (457, .iload 12, 2), (459, .iload 14, 2), (461, .iadd, 1), (462, .bipush 24, 2), (464, .irem, 1), (465, .invokevirtual 112, 3), (468, .ifCond .eq 5, 3), (471, .iconst 0, 1), (472, .ireturn, 1), (473, .iinc 14 1, 3), (476, .goto (-27), 3), (479, .iload 12, 2), (481, .istore 10, 2), (483, .iinc 11 1, 3), (486, .goto (-133), 3), (489, .aload_n 0, 1), (490, .invokevirtual 123, 3), (493, .istore 11, 2), (495, .iload 11, 2), (497, .aload_n 0, 1), (498, .invokevirtual 126, 3), (501, .if_icmp .ne 66, 3), (504, .iload 11, 2), (506, .bipush (-4), 2), (508, .if_icmp .ne 18, 3), (511, .iload 4, 2), (513, .ifCond .eq 54, 3), (516, .aload_n 0, 1), (517, .invokevirtual 129, 3), (520, .ifCond .eq 49, 3), (523, .goto 44, 3), (526, .iload 4, 2), (528, .ifCond .gt 39, 3), (531, .aload_n 0, 1), (532, .iload 11, 2), (534, .invokevirtual 132, 3), (537, .iconst 1, 1), (538, .if_icmp .ne 29, 3), (541, .aload_n 0, 1), (542, .invokevirtual 129, 3), (545, .iconst 1, 1), (546, .if_icmp .lt 21, 3), (549, .aload_n 0, 1), (550, .aload_n 0, 1), (551, .bipush 7, 2), (553, .invokevirtual 96, 3), (556, .invokevirtual 135, 3), (559, .iload 11, 2), (561, .invokestatic 138, 3), (564, .if_icmp .eq 5, 3), (567, .iconst 0, 1), (568, .ireturn, 1), (569, .iload 5, 2), (571, .aload_n 0, 1), (572, .iconst 1, 1), (573, .invokevirtual 96, 3), (576, .if_icmp .ne 107, 3), (579, .iload_n 2, 1), (580, .aload_n 0, 1), (581, .iconst 2, 1), (582, .invokevirtual 96, 3), (585, .if_icmp .ne 98, 3), (588, .iload_n 3, 1), (589, .aload_n 0, 1), (590, .iconst 3, 1), (591, .invokevirtual 96, 3), (594, .if_icmp .ne 89, 3), (597, .iload 4, 2), (599, .aload_n 0, 1), (600, .bipush 6, 2), (602, .invokevirtual 96, 3), (605, .if_icmp .ne 78, 3), (608, .iload 8, 2), (610, .aload_n 0, 1), (611, .iconst 5, 1), (612, .invokevirtual 96, 3), (615, .if_icmp .ne 68, 3), (618, .iload 9, 2), (620, .iload_n 2, 1), (621, .iadd, 1), (622, .bipush 24, 2), (624, .if_icmp .ne 59, 3), (627, .aload_n 0, 1), (628, .iload 7, 2), (630, .iconst 0, 1), (631, .invokevirtual 115, 3), (634, .iconst (-1), 1), (635, .if_icmp .ne 48, 3), (638, .aload_n 0, 1), (639, .invokevirtual 143, 3), (642, .iload 6, 2), (644, .i2f, 1), (645, .ldc 146, 2), (647, .fdiv, 1), (648, .invokestatic 147, 3), (651, .if_icmp .ne 32, 3), (654, .aload_n 0, 1), (655, .bipush 8, 2), (657, .invokevirtual 96, 3), (660, .aload_n 0, 1), (661, .bipush 9, 2), (663, .invokevirtual 96, 3), (666, .isub, 1), (667, .iload_n 1, 1), (668, .if_icmp .ne 15, 3), (671, .aload_n 0, 1), (672, .invokevirtual 153, 3), (675, .iconst 1, 1), (676, .if_icmp .ne 7, 3), (679, .iconst 1, 1), (680, .goto 4, 3), (683, .iconst 0, 1), (684, .ireturn, 1)]
set_option maxRecDepth 20000 in
theorem DL_isWell : Tab cL_isWell tL_isWell = true := by decide +kernel
def tL_law_0 : List (Nat × Instr × Nat) := [(0, .aload_n 0, 1), (1, .invokestatic 156, 3), (4, .astore_n 1, 1), (5, .aload_n 1, 1), (6, .ifnull 10, 3), (9, .aload_n 1, 1), (10, .invokestatic 160, 3), (13, .ifCond .ne 5, 3), (16, .iconst 0, 1), (17, .ireturn, 1), (18, .iconst 0, 1), (19, .istore_n 2, 1), (20, .iload_n 2, 1), (21, .bipush 10, 2), (23, .if_icmp .ge 105, 3), (26, .aload_n 1, 1), (27, .invokestatic 163, 3), (30, .astore_n 3, 1), (31, .aload_n 1, 1), (32, .aload_n 0, 1), (33, .bipush 40, 2), (35, .iconst 4, 1), (36, .iload_n 2, 1), (37, .imul, 1), (38, .iadd, 1), (39, .invokestatic 167, 3), (42, .istore 4, 2), (44, .iload 4, 2), (46, .bipush (-99), 2), (48, .if_icmp .eq 35, 3), (51, .aload_n 1, 1), (52, .invokestatic 160, 3), (55, .ifCond .eq 28, 3), (58, .aload_n 1, 1), (59, .bipush 11, 2), (61, .invokevirtual 96, 3), (64, .ifCond .ne 19, 3), (67, .iload 4, 2), (69, .ifCond .ge 16, 3), (72, .aload_n 3, 1), (73, .aload_n 1, 1), (74, .invokestatic 163, 3), (77, .invokestatic 171, 3), (80, .ifCond .ne 5, 3), (83, .iconst 0, 1), (84, .ireturn, 1), (85, .iload 4, 2), (87, .ifCond .lt 35, 3), (90, .aload_n 0, 1), (91, .bipush 81, 2), (93, .iload_n 2, 1), (94, .iadd, 1), (95, .iconst 5, 1), (96, .invokestatic 36, 3), (99, .ifCond .ne 23, 3), (102, .aload_n 1, 1), (103, .invokevirtual 175, 3), (106, .ifCond .lt 14, 3), (109, .aload_n 3, 1), (110, .aload_n 1, 1)]
set_option maxRecDepth 20000 in
theorem DL_law_0 : Tab cL_law tL_law_0 = true := by decide +kernel
def tL_law_1 : List (Nat × Instr × Nat) := [(111, .invokestatic 163, 3), (114, .invokestatic 171, 3), (117, .ifCond .ne 5, 3), (120, .iconst 0, 1), (121, .ireturn, 1), (122, .iinc 2 1, 3), (125, .goto (-105), 3), (128, .aload_n 1, 1), (129, .invokestatic 163, 3), (132, .astore_n 2, 1), (133, .aload_n 1, 1), (134, .invokevirtual 178, 3), (137, .istore_n 3, 1), (138, .aload_n 1, 1), (139, .invokevirtual 181, 3), (142, .aload_n 1, 1), (143, .invokevirtual 184, 3), (146, .iadd, 1), (147, .aload_n 1, 1), (148, .invokevirtual 187, 3), (151, .iadd, 1), (152, .aload_n 1, 1), (153, .iconst 5, 1), (154, .invokevirtual 190, 3), (157, .iadd, 1), (158, .aload_n 1, 1), (159, .bipush 11, 2), (161, .invokevirtual 135, 3), (164, .iadd, 1), (165, .aload_n 1, 1), (166, .iconst 2, 1), (167, .iconst 0, 1), (168, .invokevirtual 193, 3), (171, .iadd, 1), (172, .istore 4, 2), (174, .aload_n 2, 1), (175, .aload_n 1, 1), (176, .invokestatic 163, 3), (179, .invokestatic 171, 3), (182, .ifCond .ne 5, 3), (185, .iconst 0, 1), (186, .ireturn, 1), (187, .iload 4, 2), (189, .aload_n 1, 1), (190, .iconst 3, 1), (191, .iconst 3, 1), (192, .iconst 3, 1), (193, .invokevirtual 40, 3), (196, .aload_n 1, 1), (197, .iconst 0, 1), (198, .invokevirtual 55, 3), (201, .iadd, 1), (202, .aload_n 1, 1), (203, .invokevirtual 93, 3), (206, .iadd, 1), (207, .aload_n 1, 1), (208, .bipush 7, 2), (210, .invokevirtual 51, 3), (213, .iadd, 1), (214, .iadd, 1)]
set_option maxRecDepth 20000 in
theorem DL_law_1 : Tab cL_law tL_law_1 = true := by decide +kernel
def tL_law_2 : List (Nat × Instr × Nat) := [(215, .istore 4, 2), (217, .aload_n 1, 1), (218, .invokevirtual 196, 3), (221, .iload_n 3, 1), (222, .if_icmp .ne 34, 3), (225, .aload_n 2, 1), (226, .aload_n 1, 1), (227, .invokestatic 163, 3), (230, .invokestatic 171, 3), (233, .ifCond .eq 23, 3), (236, .aload_n 1, 1), (237, .bipush 12, 2), (239, .invokevirtual 96, 3), (242, .ifCond .ne 14, 3), (245, .iload 4, 2), (247, .ldc 54, 2), (249, .if_icmp .le 7, 3), (252, .iconst 1, 1), (253, .goto 4, 3), (256, .iconst 0, 1), (257, .ireturn, 1)]
set_option maxRecDepth 20000 in
theorem DL_law_2 : Tab cL_law tL_law_2 = true := by decide +kernel
