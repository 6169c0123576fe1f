-- ===== PART A: goes FIRST, ahead of the names: the tables' words, and 'selects' of the private methods out of them =====
/-- a private method of a class that the tables say can be made, by its rows of tables_1 -/
def lw_okq (q : MethodName × Nat) : Prop := (q.1.cls ≠ "java/lang/invoke/MethodHandle" ∧ q.1.cls ≠ "java/lang/invoke/VarHandle") ∧ Cond.instantiable q.1.cls q.2 ∈ tables_1 ∧ Cond.privateMethod q.1 ∈ tables_1 ∧ Cond.instanceMethod q.1 ∈ tables_1
theorem lw_p0 : lw_okq (⟨"FortressWatch$Wall", "empty", "(I)V"⟩, 11) := ⟨⟨by decide +kernel, by decide +kernel⟩, List.mem_of_getElem? (i := 24) (by decide +kernel), List.mem_of_getElem? (i := 30) (by decide +kernel), List.mem_of_getElem? (i := 31) (by decide +kernel)⟩
theorem lw_p1 : lw_okq (⟨"FortressWatch$Wall", "copyPlace", "(LFortressWatch$Wall;II)V"⟩, 11) := ⟨⟨by decide +kernel, by decide +kernel⟩, List.mem_of_getElem? (i := 24) (by decide +kernel), List.mem_of_getElem? (i := 279) (by decide +kernel), List.mem_of_getElem? (i := 280) (by decide +kernel)⟩
theorem lw_p2 : lw_okq (⟨"FortressWatch", "buildPost", "(III)I"⟩, 13) := ⟨⟨by decide +kernel, by decide +kernel⟩, List.mem_of_getElem? (i := 16) (by decide +kernel), List.mem_of_getElem? (i := 283) (by decide +kernel), List.mem_of_getElem? (i := 284) (by decide +kernel)⟩
theorem lw_p3 : lw_okq (⟨"FortressWatch", "refuse", "(II)I"⟩, 13) := ⟨⟨by decide +kernel, by decide +kernel⟩, List.mem_of_getElem? (i := 16) (by decide +kernel), List.mem_of_getElem? (i := 297) (by decide +kernel), List.mem_of_getElem? (i := 298) (by decide +kernel)⟩
theorem lw_p4 : lw_okq (⟨"FortressWatch", "kept", "(I)I"⟩, 13) := ⟨⟨by decide +kernel, by decide +kernel⟩, List.mem_of_getElem? (i := 16) (by decide +kernel), List.mem_of_getElem? (i := 310) (by decide +kernel), List.mem_of_getElem? (i := 311) (by decide +kernel)⟩
theorem lw_p5 : lw_okq (⟨"FortressWatch", "tearDown", "(I)I"⟩, 13) := ⟨⟨by decide +kernel, by decide +kernel⟩, List.mem_of_getElem? (i := 16) (by decide +kernel), List.mem_of_getElem? (i := 326) (by decide +kernel), List.mem_of_getElem? (i := 327) (by decide +kernel)⟩
theorem lw_p6 : lw_okq (⟨"FortressWatch", "tellReaches", "(III)I"⟩, 13) := ⟨⟨by decide +kernel, by decide +kernel⟩, List.mem_of_getElem? (i := 16) (by decide +kernel), List.mem_of_getElem? (i := 342) (by decide +kernel), List.mem_of_getElem? (i := 343) (by decide +kernel)⟩
theorem lw_p7 : lw_okq (⟨"FortressWatch", "tellBlindAngle", "(III)I"⟩, 13) := ⟨⟨by decide +kernel, by decide +kernel⟩, List.mem_of_getElem? (i := 16) (by decide +kernel), List.mem_of_getElem? (i := 350) (by decide +kernel), List.mem_of_getElem? (i := 351) (by decide +kernel)⟩
theorem lw_p8 : lw_okq (⟨"FortressWatch", "manySeenNow", "(I)I"⟩, 13) := ⟨⟨by decide +kernel, by decide +kernel⟩, List.mem_of_getElem? (i := 16) (by decide +kernel), List.mem_of_getElem? (i := 354) (by decide +kernel), List.mem_of_getElem? (i := 355) (by decide +kernel)⟩
theorem lw_p9 : lw_okq (⟨"FortressWatch", "dropBlindAngle", "(I)I"⟩, 13) := ⟨⟨by decide +kernel, by decide +kernel⟩, List.mem_of_getElem? (i := 16) (by decide +kernel), List.mem_of_getElem? (i := 395) (by decide +kernel), List.mem_of_getElem? (i := 396) (by decide +kernel)⟩
theorem lw_p10 : lw_okq (⟨"FortressWatch", "letBeManned", "(II)I"⟩, 13) := ⟨⟨by decide +kernel, by decide +kernel⟩, List.mem_of_getElem? (i := 16) (by decide +kernel), List.mem_of_getElem? (i := 403) (by decide +kernel), List.mem_of_getElem? (i := 404) (by decide +kernel)⟩
theorem lw_p11 : lw_okq (⟨"FortressWatch", "manyWatchedNow", "()I"⟩, 13) := ⟨⟨by decide +kernel, by decide +kernel⟩, List.mem_of_getElem? (i := 16) (by decide +kernel), List.mem_of_getElem? (i := 407) (by decide +kernel), List.mem_of_getElem? (i := 408) (by decide +kernel)⟩
theorem lw_p12 : lw_okq (⟨"FortressWatch", "tellHour", "(I)I"⟩, 13) := ⟨⟨by decide +kernel, by decide +kernel⟩, List.mem_of_getElem? (i := 16) (by decide +kernel), List.mem_of_getElem? (i := 423) (by decide +kernel), List.mem_of_getElem? (i := 424) (by decide +kernel)⟩
theorem lw_p13 : lw_okq (⟨"FortressWatch", "manFewest", "()I"⟩, 13) := ⟨⟨by decide +kernel, by decide +kernel⟩, List.mem_of_getElem? (i := 16) (by decide +kernel), List.mem_of_getElem? (i := 434) (by decide +kernel), List.mem_of_getElem? (i := 435) (by decide +kernel)⟩
theorem lw_p14 : lw_okq (⟨"FortressWatch$Chooser", "fillSets", "(LFortressWatch$Sights;)V"⟩, 5) := ⟨⟨by decide +kernel, by decide +kernel⟩, List.mem_of_getElem? (i := 116) (by decide +kernel), List.mem_of_getElem? (i := 442) (by decide +kernel), List.mem_of_getElem? (i := 443) (by decide +kernel)⟩
theorem lw_p15 : lw_okq (⟨"FortressWatch", "manyUnseen", "()I"⟩, 13) := ⟨⟨by decide +kernel, by decide +kernel⟩, List.mem_of_getElem? (i := 16) (by decide +kernel), List.mem_of_getElem? (i := 449) (by decide +kernel), List.mem_of_getElem? (i := 450) (by decide +kernel)⟩
def lw_privs_1 : List (MethodName × Nat) := [(⟨"FortressWatch$Wall", "empty", "(I)V"⟩, 11), (⟨"FortressWatch$Wall", "copyPlace", "(LFortressWatch$Wall;II)V"⟩, 11), (⟨"FortressWatch", "buildPost", "(III)I"⟩, 13), (⟨"FortressWatch", "refuse", "(II)I"⟩, 13), (⟨"FortressWatch", "kept", "(I)I"⟩, 13), (⟨"FortressWatch", "tearDown", "(I)I"⟩, 13), (⟨"FortressWatch", "tellReaches", "(III)I"⟩, 13), (⟨"FortressWatch", "tellBlindAngle", "(III)I"⟩, 13), (⟨"FortressWatch", "manySeenNow", "(I)I"⟩, 13), (⟨"FortressWatch", "dropBlindAngle", "(I)I"⟩, 13), (⟨"FortressWatch", "letBeManned", "(II)I"⟩, 13), (⟨"FortressWatch", "manyWatchedNow", "()I"⟩, 13), (⟨"FortressWatch", "tellHour", "(I)I"⟩, 13), (⟨"FortressWatch", "manFewest", "()I"⟩, 13), (⟨"FortressWatch$Chooser", "fillSets", "(LFortressWatch$Sights;)V"⟩, 5), (⟨"FortressWatch", "manyUnseen", "()I"⟩, 13)]
theorem lw_r1 : ∀ q ∈ lw_privs_1, lw_okq q := List.forall_mem_cons.mpr ⟨lw_p0, List.forall_mem_cons.mpr ⟨lw_p1, List.forall_mem_cons.mpr ⟨lw_p2, List.forall_mem_cons.mpr ⟨lw_p3, List.forall_mem_cons.mpr ⟨lw_p4, List.forall_mem_cons.mpr ⟨lw_p5, List.forall_mem_cons.mpr ⟨lw_p6, List.forall_mem_cons.mpr ⟨lw_p7, List.forall_mem_cons.mpr ⟨lw_p8, List.forall_mem_cons.mpr ⟨lw_p9, List.forall_mem_cons.mpr ⟨lw_p10, List.forall_mem_cons.mpr ⟨lw_p11, List.forall_mem_cons.mpr ⟨lw_p12, List.forall_mem_cons.mpr ⟨lw_p13, List.forall_mem_cons.mpr ⟨lw_p14, List.forall_mem_cons.mpr ⟨lw_p15, fun _ h => absurd h List.not_mem_nil⟩⟩⟩⟩⟩⟩⟩⟩⟩⟩⟩⟩⟩⟩⟩⟩
theorem lw_p16 : lw_okq (⟨"FortressWatch$Gaps", "add", "(II)V"⟩, 3) := ⟨⟨by decide +kernel, by decide +kernel⟩, List.mem_of_getElem? (i := 141) (by decide +kernel), List.mem_of_getElem? (i := 495) (by decide +kernel), List.mem_of_getElem? (i := 496) (by decide +kernel)⟩
theorem lw_p17 : lw_okq (⟨"FortressWatch", "closingMost", "(I)I"⟩, 13) := ⟨⟨by decide +kernel, by decide +kernel⟩, List.mem_of_getElem? (i := 16) (by decide +kernel), List.mem_of_getElem? (i := 564) (by decide +kernel), List.mem_of_getElem? (i := 565) (by decide +kernel)⟩
theorem lw_p18 : lw_okq (⟨"FortressWatch", "keyOf", "(II)I"⟩, 13) := ⟨⟨by decide +kernel, by decide +kernel⟩, List.mem_of_getElem? (i := 16) (by decide +kernel), List.mem_of_getElem? (i := 585) (by decide +kernel), List.mem_of_getElem? (i := 586) (by decide +kernel)⟩
theorem lw_p19 : lw_okq (⟨"FortressWatch$Order", "placeOf", "(II)I"⟩, 1) := ⟨⟨by decide +kernel, by decide +kernel⟩, List.mem_of_getElem? (i := 158) (by decide +kernel), List.mem_of_getElem? (i := 597) (by decide +kernel), List.mem_of_getElem? (i := 598) (by decide +kernel)⟩
theorem lw_p20 : lw_okq (⟨"FortressWatch", "putMarked", "(II)V"⟩, 13) := ⟨⟨by decide +kernel, by decide +kernel⟩, List.mem_of_getElem? (i := 16) (by decide +kernel), List.mem_of_getElem? (i := 617) (by decide +kernel), List.mem_of_getElem? (i := 618) (by decide +kernel)⟩
theorem lw_p21 : lw_okq (⟨"FortressWatch$Text", "codeHere", "()I"⟩, 7) := ⟨⟨by decide +kernel, by decide +kernel⟩, List.mem_of_getElem? (i := 168) (by decide +kernel), List.mem_of_getElem? (i := 661) (by decide +kernel), List.mem_of_getElem? (i := 662) (by decide +kernel)⟩
theorem lw_p22 : lw_okq (⟨"FortressWatch$Text", "takeFirst", "(I)Z"⟩, 7) := ⟨⟨by decide +kernel, by decide +kernel⟩, List.mem_of_getElem? (i := 168) (by decide +kernel), List.mem_of_getElem? (i := 669) (by decide +kernel), List.mem_of_getElem? (i := 670) (by decide +kernel)⟩
theorem lw_p23 : lw_okq (⟨"FortressWatch$Text", "takeNumber", "(I)I"⟩, 7) := ⟨⟨by decide +kernel, by decide +kernel⟩, List.mem_of_getElem? (i := 168) (by decide +kernel), List.mem_of_getElem? (i := 673) (by decide +kernel), List.mem_of_getElem? (i := 674) (by decide +kernel)⟩
theorem lw_p24 : lw_okq (⟨"FortressWatch$Text", "takeSecond", "(I)Z"⟩, 7) := ⟨⟨by decide +kernel, by decide +kernel⟩, List.mem_of_getElem? (i := 168) (by decide +kernel), List.mem_of_getElem? (i := 677) (by decide +kernel), List.mem_of_getElem? (i := 678) (by decide +kernel)⟩
theorem lw_p25 : lw_okq (⟨"FortressWatch$Text", "takeThird", "(I)Z"⟩, 7) := ⟨⟨by decide +kernel, by decide +kernel⟩, List.mem_of_getElem? (i := 168) (by decide +kernel), List.mem_of_getElem? (i := 681) (by decide +kernel), List.mem_of_getElem? (i := 682) (by decide +kernel)⟩
theorem lw_p26 : lw_okq (⟨"FortressWatch", "carryOutAll", "()I"⟩, 13) := ⟨⟨by decide +kernel, by decide +kernel⟩, List.mem_of_getElem? (i := 16) (by decide +kernel), List.mem_of_getElem? (i := 689) (by decide +kernel), List.mem_of_getElem? (i := 690) (by decide +kernel)⟩
theorem lw_p27 : lw_okq (⟨"FortressWatch", "carryOut", "()I"⟩, 13) := ⟨⟨by decide +kernel, by decide +kernel⟩, List.mem_of_getElem? (i := 16) (by decide +kernel), List.mem_of_getElem? (i := 695) (by decide +kernel), List.mem_of_getElem? (i := 696) (by decide +kernel)⟩
theorem lw_p28 : lw_okq (⟨"FortressWatch", "sightAccount", "(I)I"⟩, 13) := ⟨⟨by decide +kernel, by decide +kernel⟩, List.mem_of_getElem? (i := 16) (by decide +kernel), List.mem_of_getElem? (i := 716) (by decide +kernel), List.mem_of_getElem? (i := 717) (by decide +kernel)⟩
theorem lw_p29 : lw_okq (⟨"FortressWatchModel", "keeps", "()V"⟩, 16) := ⟨⟨by decide +kernel, by decide +kernel⟩, List.mem_of_getElem? (i := 768) (by decide +kernel), List.mem_of_getElem? (i := 827) (by decide +kernel), List.mem_of_getElem? (i := 828) (by decide +kernel)⟩
theorem lw_p30 : lw_okq (⟨"FortressWatchModel", "builds", "(III)I"⟩, 16) := ⟨⟨by decide +kernel, by decide +kernel⟩, List.mem_of_getElem? (i := 768) (by decide +kernel), List.mem_of_getElem? (i := 834) (by decide +kernel), List.mem_of_getElem? (i := 835) (by decide +kernel)⟩
theorem lw_p31 : lw_okq (⟨"FortressWatchModel", "postOn", "(I)I"⟩, 16) := ⟨⟨by decide +kernel, by decide +kernel⟩, List.mem_of_getElem? (i := 768) (by decide +kernel), List.mem_of_getElem? (i := 847) (by decide +kernel), List.mem_of_getElem? (i := 848) (by decide +kernel)⟩
def lw_privs_2 : List (MethodName × Nat) := [(⟨"FortressWatch$Gaps", "add", "(II)V"⟩, 3), (⟨"FortressWatch", "closingMost", "(I)I"⟩, 13), (⟨"FortressWatch", "keyOf", "(II)I"⟩, 13), (⟨"FortressWatch$Order", "placeOf", "(II)I"⟩, 1), (⟨"FortressWatch", "putMarked", "(II)V"⟩, 13), (⟨"FortressWatch$Text", "codeHere", "()I"⟩, 7), (⟨"FortressWatch$Text", "takeFirst", "(I)Z"⟩, 7), (⟨"FortressWatch$Text", "takeNumber", "(I)I"⟩, 7), (⟨"FortressWatch$Text", "takeSecond", "(I)Z"⟩, 7), (⟨"FortressWatch$Text", "takeThird", "(I)Z"⟩, 7), (⟨"FortressWatch", "carryOutAll", "()I"⟩, 13), (⟨"FortressWatch", "carryOut", "()I"⟩, 13), (⟨"FortressWatch", "sightAccount", "(I)I"⟩, 13), (⟨"FortressWatchModel", "keeps", "()V"⟩, 16), (⟨"FortressWatchModel", "builds", "(III)I"⟩, 16), (⟨"FortressWatchModel", "postOn", "(I)I"⟩, 16)]
theorem lw_r2 : ∀ q ∈ lw_privs_2, lw_okq q := List.forall_mem_cons.mpr ⟨lw_p16, List.forall_mem_cons.mpr ⟨lw_p17, List.forall_mem_cons.mpr ⟨lw_p18, List.forall_mem_cons.mpr ⟨lw_p19, List.forall_mem_cons.mpr ⟨lw_p20, List.forall_mem_cons.mpr ⟨lw_p21, List.forall_mem_cons.mpr ⟨lw_p22, List.forall_mem_cons.mpr ⟨lw_p23, List.forall_mem_cons.mpr ⟨lw_p24, List.forall_mem_cons.mpr ⟨lw_p25, List.forall_mem_cons.mpr ⟨lw_p26, List.forall_mem_cons.mpr ⟨lw_p27, List.forall_mem_cons.mpr ⟨lw_p28, List.forall_mem_cons.mpr ⟨lw_p29, List.forall_mem_cons.mpr ⟨lw_p30, List.forall_mem_cons.mpr ⟨lw_p31, fun _ h => absurd h List.not_mem_nil⟩⟩⟩⟩⟩⟩⟩⟩⟩⟩⟩⟩⟩⟩⟩⟩
theorem lw_p32 : lw_okq (⟨"FortressWatchModel", "of", "(II)I"⟩, 16) := ⟨⟨by decide +kernel, by decide +kernel⟩, List.mem_of_getElem? (i := 768) (by decide +kernel), List.mem_of_getElem? (i := 851) (by decide +kernel), List.mem_of_getElem? (i := 852) (by decide +kernel)⟩
theorem lw_p33 : lw_okq (⟨"FortressWatchModel", "isRefused", "(ZII)Z"⟩, 16) := ⟨⟨by decide +kernel, by decide +kernel⟩, List.mem_of_getElem? (i := 768) (by decide +kernel), List.mem_of_getElem? (i := 855) (by decide +kernel), List.mem_of_getElem? (i := 856) (by decide +kernel)⟩
theorem lw_p34 : lw_okq (⟨"FortressWatchModel", "sets", "(III)V"⟩, 16) := ⟨⟨by decide +kernel, by decide +kernel⟩, List.mem_of_getElem? (i := 768) (by decide +kernel), List.mem_of_getElem? (i := 859) (by decide +kernel), List.mem_of_getElem? (i := 860) (by decide +kernel)⟩
theorem lw_p35 : lw_okq (⟨"FortressWatchModel", "ends", "(I)I"⟩, 16) := ⟨⟨by decide +kernel, by decide +kernel⟩, List.mem_of_getElem? (i := 768) (by decide +kernel), List.mem_of_getElem? (i := 863) (by decide +kernel), List.mem_of_getElem? (i := 864) (by decide +kernel)⟩
theorem lw_p36 : lw_okq (⟨"FortressWatchModel", "changed", "()V"⟩, 16) := ⟨⟨by decide +kernel, by decide +kernel⟩, List.mem_of_getElem? (i := 768) (by decide +kernel), List.mem_of_getElem? (i := 867) (by decide +kernel), List.mem_of_getElem? (i := 868) (by decide +kernel)⟩
theorem lw_p37 : lw_okq (⟨"FortressWatchModel", "tears", "(I)I"⟩, 16) := ⟨⟨by decide +kernel, by decide +kernel⟩, List.mem_of_getElem? (i := 768) (by decide +kernel), List.mem_of_getElem? (i := 875) (by decide +kernel), List.mem_of_getElem? (i := 876) (by decide +kernel)⟩
theorem lw_p38 : lw_okq (⟨"FortressWatchModel", "isPost", "(I)Z"⟩, 16) := ⟨⟨by decide +kernel, by decide +kernel⟩, List.mem_of_getElem? (i := 768) (by decide +kernel), List.mem_of_getElem? (i := 879) (by decide +kernel), List.mem_of_getElem? (i := 880) (by decide +kernel)⟩
theorem lw_p39 : lw_okq (⟨"FortressWatchModel", "reaches", "(III)I"⟩, 16) := ⟨⟨by decide +kernel, by decide +kernel⟩, List.mem_of_getElem? (i := 768) (by decide +kernel), List.mem_of_getElem? (i := 887) (by decide +kernel), List.mem_of_getElem? (i := 888) (by decide +kernel)⟩
theorem lw_p40 : lw_okq (⟨"FortressWatchModel", "blinds", "(III)I"⟩, 16) := ⟨⟨by decide +kernel, by decide +kernel⟩, List.mem_of_getElem? (i := 768) (by decide +kernel), List.mem_of_getElem? (i := 895) (by decide +kernel), List.mem_of_getElem? (i := 896) (by decide +kernel)⟩
theorem lw_p41 : lw_okq (⟨"FortressWatchModel", "sight", "(I)I"⟩, 16) := ⟨⟨by decide +kernel, by decide +kernel⟩, List.mem_of_getElem? (i := 768) (by decide +kernel), List.mem_of_getElem? (i := 899) (by decide +kernel), List.mem_of_getElem? (i := 900) (by decide +kernel)⟩
theorem lw_p42 : lw_okq (⟨"FortressWatchModel", "sightIn", "(II)I"⟩, 16) := ⟨⟨by decide +kernel, by decide +kernel⟩, List.mem_of_getElem? (i := 768) (by decide +kernel), List.mem_of_getElem? (i := 903) (by decide +kernel), List.mem_of_getElem? (i := 904) (by decide +kernel)⟩
theorem lw_p43 : lw_okq (⟨"FortressWatchModel", "lets", "(I)I"⟩, 16) := ⟨⟨by decide +kernel, by decide +kernel⟩, List.mem_of_getElem? (i := 768) (by decide +kernel), List.mem_of_getElem? (i := 920) (by decide +kernel), List.mem_of_getElem? (i := 921) (by decide +kernel)⟩
theorem lw_p44 : lw_okq (⟨"FortressWatchModel", "mans", "(II)I"⟩, 16) := ⟨⟨by decide +kernel, by decide +kernel⟩, List.mem_of_getElem? (i := 768) (by decide +kernel), List.mem_of_getElem? (i := 928) (by decide +kernel), List.mem_of_getElem? (i := 929) (by decide +kernel)⟩
theorem lw_p45 : lw_okq (⟨"FortressWatchModel", "mannedSet", "()I"⟩, 16) := ⟨⟨by decide +kernel, by decide +kernel⟩, List.mem_of_getElem? (i := 768) (by decide +kernel), List.mem_of_getElem? (i := 932) (by decide +kernel), List.mem_of_getElem? (i := 933) (by decide +kernel)⟩
theorem lw_p46 : lw_okq (⟨"FortressWatchModel", "isManned", "(I)Z"⟩, 16) := ⟨⟨by decide +kernel, by decide +kernel⟩, List.mem_of_getElem? (i := 768) (by decide +kernel), List.mem_of_getElem? (i := 936) (by decide +kernel), List.mem_of_getElem? (i := 937) (by decide +kernel)⟩
theorem lw_p47 : lw_okq (⟨"FortressWatchModel", "seen", "(I)I"⟩, 16) := ⟨⟨by decide +kernel, by decide +kernel⟩, List.mem_of_getElem? (i := 768) (by decide +kernel), List.mem_of_getElem? (i := 940) (by decide +kernel), List.mem_of_getElem? (i := 941) (by decide +kernel)⟩
def lw_privs_3 : List (MethodName × Nat) := [(⟨"FortressWatchModel", "of", "(II)I"⟩, 16), (⟨"FortressWatchModel", "isRefused", "(ZII)Z"⟩, 16), (⟨"FortressWatchModel", "sets", "(III)V"⟩, 16), (⟨"FortressWatchModel", "ends", "(I)I"⟩, 16), (⟨"FortressWatchModel", "changed", "()V"⟩, 16), (⟨"FortressWatchModel", "tears", "(I)I"⟩, 16), (⟨"FortressWatchModel", "isPost", "(I)Z"⟩, 16), (⟨"FortressWatchModel", "reaches", "(III)I"⟩, 16), (⟨"FortressWatchModel", "blinds", "(III)I"⟩, 16), (⟨"FortressWatchModel", "sight", "(I)I"⟩, 16), (⟨"FortressWatchModel", "sightIn", "(II)I"⟩, 16), (⟨"FortressWatchModel", "lets", "(I)I"⟩, 16), (⟨"FortressWatchModel", "mans", "(II)I"⟩, 16), (⟨"FortressWatchModel", "mannedSet", "()I"⟩, 16), (⟨"FortressWatchModel", "isManned", "(I)Z"⟩, 16), (⟨"FortressWatchModel", "seen", "(I)I"⟩, 16)]
theorem lw_r3 : ∀ q ∈ lw_privs_3, lw_okq q := List.forall_mem_cons.mpr ⟨lw_p32, List.forall_mem_cons.mpr ⟨lw_p33, List.forall_mem_cons.mpr ⟨lw_p34, List.forall_mem_cons.mpr ⟨lw_p35, List.forall_mem_cons.mpr ⟨lw_p36, List.forall_mem_cons.mpr ⟨lw_p37, List.forall_mem_cons.mpr ⟨lw_p38, List.forall_mem_cons.mpr ⟨lw_p39, List.forall_mem_cons.mpr ⟨lw_p40, List.forall_mem_cons.mpr ⟨lw_p41, List.forall_mem_cons.mpr ⟨lw_p42, List.forall_mem_cons.mpr ⟨lw_p43, List.forall_mem_cons.mpr ⟨lw_p44, List.forall_mem_cons.mpr ⟨lw_p45, List.forall_mem_cons.mpr ⟨lw_p46, List.forall_mem_cons.mpr ⟨lw_p47, fun _ h => absurd h List.not_mem_nil⟩⟩⟩⟩⟩⟩⟩⟩⟩⟩⟩⟩⟩⟩⟩⟩
theorem lw_p48 : lw_okq (⟨"FortressWatchModel", "seenIn", "(II)I"⟩, 16) := ⟨⟨by decide +kernel, by decide +kernel⟩, List.mem_of_getElem? (i := 768) (by decide +kernel), List.mem_of_getElem? (i := 944) (by decide +kernel), List.mem_of_getElem? (i := 945) (by decide +kernel)⟩
theorem lw_p49 : lw_okq (⟨"FortressWatchModel", "tellsHour", "(I)I"⟩, 16) := ⟨⟨by decide +kernel, by decide +kernel⟩, List.mem_of_getElem? (i := 768) (by decide +kernel), List.mem_of_getElem? (i := 955) (by decide +kernel), List.mem_of_getElem? (i := 956) (by decide +kernel)⟩
theorem lw_p50 : lw_okq (⟨"FortressWatchModel", "watching", "()I"⟩, 16) := ⟨⟨by decide +kernel, by decide +kernel⟩, List.mem_of_getElem? (i := 768) (by decide +kernel), List.mem_of_getElem? (i := 966) (by decide +kernel), List.mem_of_getElem? (i := 967) (by decide +kernel)⟩
theorem lw_p51 : lw_okq (⟨"FortressWatchModel", "fewestIn", "(I)I"⟩, 16) := ⟨⟨by decide +kernel, by decide +kernel⟩, List.mem_of_getElem? (i := 768) (by decide +kernel), List.mem_of_getElem? (i := 970) (by decide +kernel), List.mem_of_getElem? (i := 971) (by decide +kernel)⟩
theorem lw_p52 : lw_okq (⟨"FortressWatchModel", "all", "()I"⟩, 16) := ⟨⟨by decide +kernel, by decide +kernel⟩, List.mem_of_getElem? (i := 768) (by decide +kernel), List.mem_of_getElem? (i := 974) (by decide +kernel), List.mem_of_getElem? (i := 975) (by decide +kernel)⟩
theorem lw_p53 : lw_okq (⟨"FortressWatchModel", "isFewest", "(II)Z"⟩, 16) := ⟨⟨by decide +kernel, by decide +kernel⟩, List.mem_of_getElem? (i := 768) (by decide +kernel), List.mem_of_getElem? (i := 991) (by decide +kernel), List.mem_of_getElem? (i := 992) (by decide +kernel)⟩
theorem lw_p54 : lw_okq (⟨"FortressWatchModel", "nextTo", "(I)I"⟩, 16) := ⟨⟨by decide +kernel, by decide +kernel⟩, List.mem_of_getElem? (i := 768) (by decide +kernel), List.mem_of_getElem? (i := 1007) (by decide +kernel), List.mem_of_getElem? (i := 1008) (by decide +kernel)⟩
theorem lw_p55 : lw_okq (⟨"FortressWatchModel", "alone", "(I)I"⟩, 16) := ⟨⟨by decide +kernel, by decide +kernel⟩, List.mem_of_getElem? (i := 768) (by decide +kernel), List.mem_of_getElem? (i := 1027) (by decide +kernel), List.mem_of_getElem? (i := 1028) (by decide +kernel)⟩
theorem lw_p56 : lw_okq (⟨"FortressWatchModel", "isNeeded", "(I)Z"⟩, 16) := ⟨⟨by decide +kernel, by decide +kernel⟩, List.mem_of_getElem? (i := 768) (by decide +kernel), List.mem_of_getElem? (i := 1031) (by decide +kernel), List.mem_of_getElem? (i := 1032) (by decide +kernel)⟩
theorem lw_p57 : lw_okq (⟨"FortressWatchModel", "watchers", "(I)I"⟩, 16) := ⟨⟨by decide +kernel, by decide +kernel⟩, List.mem_of_getElem? (i := 768) (by decide +kernel), List.mem_of_getElem? (i := 1043) (by decide +kernel), List.mem_of_getElem? (i := 1044) (by decide +kernel)⟩
theorem lw_p58 : lw_okq (⟨"FortressWatchModel", "gapAt", "(I)I"⟩, 16) := ⟨⟨by decide +kernel, by decide +kernel⟩, List.mem_of_getElem? (i := 768) (by decide +kernel), List.mem_of_getElem? (i := 1055) (by decide +kernel), List.mem_of_getElem? (i := 1056) (by decide +kernel)⟩
theorem lw_p59 : lw_okq (⟨"FortressWatchModel", "gapLength", "(I)I"⟩, 16) := ⟨⟨by decide +kernel, by decide +kernel⟩, List.mem_of_getElem? (i := 768) (by decide +kernel), List.mem_of_getElem? (i := 1062) (by decide +kernel), List.mem_of_getElem? (i := 1063) (by decide +kernel)⟩
theorem lw_p60 : lw_okq (⟨"FortressWatchModel", "closest", "(I)I"⟩, 16) := ⟨⟨by decide +kernel, by decide +kernel⟩, List.mem_of_getElem? (i := 768) (by decide +kernel), List.mem_of_getElem? (i := 1066) (by decide +kernel), List.mem_of_getElem? (i := 1067) (by decide +kernel)⟩
theorem lw_p61 : lw_okq (⟨"FortressWatchModel", "isAhead", "(III)Z"⟩, 16) := ⟨⟨by decide +kernel, by decide +kernel⟩, List.mem_of_getElem? (i := 768) (by decide +kernel), List.mem_of_getElem? (i := 1074) (by decide +kernel), List.mem_of_getElem? (i := 1075) (by decide +kernel)⟩
theorem lw_p62 : lw_okq (⟨"FortressWatchModel", "number", "(I)V"⟩, 16) := ⟨⟨by decide +kernel, by decide +kernel⟩, List.mem_of_getElem? (i := 768) (by decide +kernel), List.mem_of_getElem? (i := 1082) (by decide +kernel), List.mem_of_getElem? (i := 1083) (by decide +kernel)⟩
theorem lw_p63 : lw_okq (⟨"FortressWatchModel", "puts", "(I)V"⟩, 16) := ⟨⟨by decide +kernel, by decide +kernel⟩, List.mem_of_getElem? (i := 768) (by decide +kernel), List.mem_of_getElem? (i := 1086) (by decide +kernel), List.mem_of_getElem? (i := 1087) (by decide +kernel)⟩
def lw_privs_4 : List (MethodName × Nat) := [(⟨"FortressWatchModel", "seenIn", "(II)I"⟩, 16), (⟨"FortressWatchModel", "tellsHour", "(I)I"⟩, 16), (⟨"FortressWatchModel", "watching", "()I"⟩, 16), (⟨"FortressWatchModel", "fewestIn", "(I)I"⟩, 16), (⟨"FortressWatchModel", "all", "()I"⟩, 16), (⟨"FortressWatchModel", "isFewest", "(II)Z"⟩, 16), (⟨"FortressWatchModel", "nextTo", "(I)I"⟩, 16), (⟨"FortressWatchModel", "alone", "(I)I"⟩, 16), (⟨"FortressWatchModel", "isNeeded", "(I)Z"⟩, 16), (⟨"FortressWatchModel", "watchers", "(I)I"⟩, 16), (⟨"FortressWatchModel", "gapAt", "(I)I"⟩, 16), (⟨"FortressWatchModel", "gapLength", "(I)I"⟩, 16), (⟨"FortressWatchModel", "closest", "(I)I"⟩, 16), (⟨"FortressWatchModel", "isAhead", "(III)Z"⟩, 16), (⟨"FortressWatchModel", "number", "(I)V"⟩, 16), (⟨"FortressWatchModel", "puts", "(I)V"⟩, 16)]
theorem lw_r4 : ∀ q ∈ lw_privs_4, lw_okq q := List.forall_mem_cons.mpr ⟨lw_p48, List.forall_mem_cons.mpr ⟨lw_p49, List.forall_mem_cons.mpr ⟨lw_p50, List.forall_mem_cons.mpr ⟨lw_p51, List.forall_mem_cons.mpr ⟨lw_p52, List.forall_mem_cons.mpr ⟨lw_p53, List.forall_mem_cons.mpr ⟨lw_p54, List.forall_mem_cons.mpr ⟨lw_p55, List.forall_mem_cons.mpr ⟨lw_p56, List.forall_mem_cons.mpr ⟨lw_p57, List.forall_mem_cons.mpr ⟨lw_p58, List.forall_mem_cons.mpr ⟨lw_p59, List.forall_mem_cons.mpr ⟨lw_p60, List.forall_mem_cons.mpr ⟨lw_p61, List.forall_mem_cons.mpr ⟨lw_p62, List.forall_mem_cons.mpr ⟨lw_p63, fun _ h => absurd h List.not_mem_nil⟩⟩⟩⟩⟩⟩⟩⟩⟩⟩⟩⟩⟩⟩⟩⟩
theorem lw_p64 : lw_okq (⟨"FortressWatchModel", "isText", "()Z"⟩, 16) := ⟨⟨by decide +kernel, by decide +kernel⟩, List.mem_of_getElem? (i := 768) (by decide +kernel), List.mem_of_getElem? (i := 1106) (by decide +kernel), List.mem_of_getElem? (i := 1107) (by decide +kernel)⟩
theorem lw_p65 : lw_okq (⟨"FortressWatchModel", "readsCommand", "()Z"⟩, 16) := ⟨⟨by decide +kernel, by decide +kernel⟩, List.mem_of_getElem? (i := 768) (by decide +kernel), List.mem_of_getElem? (i := 1110) (by decide +kernel), List.mem_of_getElem? (i := 1111) (by decide +kernel)⟩
theorem lw_p66 : lw_okq (⟨"FortressWatchModel", "signHere", "()I"⟩, 16) := ⟨⟨by decide +kernel, by decide +kernel⟩, List.mem_of_getElem? (i := 768) (by decide +kernel), List.mem_of_getElem? (i := 1114) (by decide +kernel), List.mem_of_getElem? (i := 1115) (by decide +kernel)⟩
theorem lw_p67 : lw_okq (⟨"FortressWatchModel", "isNumber", "(II)Z"⟩, 16) := ⟨⟨by decide +kernel, by decide +kernel⟩, List.mem_of_getElem? (i := 768) (by decide +kernel), List.mem_of_getElem? (i := 1121) (by decide +kernel), List.mem_of_getElem? (i := 1122) (by decide +kernel)⟩
theorem lw_p68 : lw_okq (⟨"FortressWatchModel", "isHere", "(I)Z"⟩, 16) := ⟨⟨by decide +kernel, by decide +kernel⟩, List.mem_of_getElem? (i := 768) (by decide +kernel), List.mem_of_getElem? (i := 1125) (by decide +kernel), List.mem_of_getElem? (i := 1126) (by decide +kernel)⟩
theorem lw_p69 : lw_okq (⟨"FortressWatchModel", "does", "(I)I"⟩, 16) := ⟨⟨by decide +kernel, by decide +kernel⟩, List.mem_of_getElem? (i := 768) (by decide +kernel), List.mem_of_getElem? (i := 1129) (by decide +kernel), List.mem_of_getElem? (i := 1130) (by decide +kernel)⟩
theorem lw_p70 : lw_okq (⟨"FortressWatchModel", "overlaps", "()I"⟩, 16) := ⟨⟨by decide +kernel, by decide +kernel⟩, List.mem_of_getElem? (i := 768) (by decide +kernel), List.mem_of_getElem? (i := 1141) (by decide +kernel), List.mem_of_getElem? (i := 1142) (by decide +kernel)⟩
theorem lw_p71 : lw_okq (⟨"FortressWatchModel", "gapMany", "()I"⟩, 16) := ⟨⟨by decide +kernel, by decide +kernel⟩, List.mem_of_getElem? (i := 768) (by decide +kernel), List.mem_of_getElem? (i := 1145) (by decide +kernel), List.mem_of_getElem? (i := 1146) (by decide +kernel)⟩
theorem lw_p72 : lw_okq (⟨"FortressWatchModel", "longestGap", "()I"⟩, 16) := ⟨⟨by decide +kernel, by decide +kernel⟩, List.mem_of_getElem? (i := 768) (by decide +kernel), List.mem_of_getElem? (i := 1149) (by decide +kernel), List.mem_of_getElem? (i := 1150) (by decide +kernel)⟩
def lw_privs_5 : List (MethodName × Nat) := [(⟨"FortressWatchModel", "isText", "()Z"⟩, 16), (⟨"FortressWatchModel", "readsCommand", "()Z"⟩, 16), (⟨"FortressWatchModel", "signHere", "()I"⟩, 16), (⟨"FortressWatchModel", "isNumber", "(II)Z"⟩, 16), (⟨"FortressWatchModel", "isHere", "(I)Z"⟩, 16), (⟨"FortressWatchModel", "does", "(I)I"⟩, 16), (⟨"FortressWatchModel", "overlaps", "()I"⟩, 16), (⟨"FortressWatchModel", "gapMany", "()I"⟩, 16), (⟨"FortressWatchModel", "longestGap", "()I"⟩, 16)]
theorem lw_r5 : ∀ q ∈ lw_privs_5, lw_okq q := List.forall_mem_cons.mpr ⟨lw_p64, List.forall_mem_cons.mpr ⟨lw_p65, List.forall_mem_cons.mpr ⟨lw_p66, List.forall_mem_cons.mpr ⟨lw_p67, List.forall_mem_cons.mpr ⟨lw_p68, List.forall_mem_cons.mpr ⟨lw_p69, List.forall_mem_cons.mpr ⟨lw_p70, List.forall_mem_cons.mpr ⟨lw_p71, List.forall_mem_cons.mpr ⟨lw_p72, fun _ h => absurd h List.not_mem_nil⟩⟩⟩⟩⟩⟩⟩⟩⟩
def lw_privs : List (MethodName × Nat) := lw_privs_1 ++ (lw_privs_2 ++ (lw_privs_3 ++ (lw_privs_4 ++ (lw_privs_5))))
def lw_tbl : List Cond := k2_sels lw_privs ++ tables_1
theorem lw_privs_ok : ∀ q ∈ lw_privs, lw_okq q := by
  show ∀ q ∈ lw_privs_1 ++ (lw_privs_2 ++ (lw_privs_3 ++ (lw_privs_4 ++ (lw_privs_5)))), lw_okq q
  exact List.forall_mem_append.mpr ⟨lw_r1, List.forall_mem_append.mpr ⟨lw_r2, List.forall_mem_append.mpr ⟨lw_r3, List.forall_mem_append.mpr ⟨lw_r4, lw_r5⟩⟩⟩⟩
/-- the streams that the claim lets the run draw from -/
abbrev lw_cs : List Choice := [Jvm.Choice.named "NaN.bits"]
theorem lw_bits : nanBits ∈ lw_cs := by first | decide | exact List.mem_cons_self | simp [lw_cs, nanBits]

def RX0 : String := "FortressWatch$Chooser"
def TX0 : u_T := fun k => match k with
  | 0 => ("FortressWatch$Chooser", "seenBySet", "[I", true)
  | 1 => ("FortressWatch$Chooser", "seers", "[I", true)
  | 2 => ("FortressWatch$Chooser", "best", "I", false)
  | 3 => ("FortressWatch$Chooser", "ways", "I", false)
  | _ => ("FortressWatch$Chooser", "inEach", "I", false)
def tyX0 : Nat → FieldType := fun k => match k with
  | 0 => .array .int
  | 1 => .array .int
  | 2 => .int
  | 3 => .int
  | _ => .int
theorem nmX0 : ∀ a, a < 5 → ∀ b, b < 5 → a ≠ b → (TX0 a).2.1 ≠ (TX0 b).2.1 := by decide +kernel
theorem tyX0_ok : ∀ k, k < 5 → parseFieldDescriptor (TX0 k).2.2.1 = some (tyX0 k) := by decide +kernel
abbrev cX0_init : ByteArray := prog_2_method_1_code
def yX0_init : MethodName := ⟨RX0, "<init>", "()V"⟩
abbrev cX0_trySets : ByteArray := prog_2_method_2_code
def yX0_trySets : MethodName := ⟨RX0, "trySets", "(LFortressWatch$Sights;)V"⟩
abbrev cX0_fillSets : ByteArray := prog_2_method_3_code
def yX0_fillSets : MethodName := ⟨RX0, "fillSets", "(LFortressWatch$Sights;)V"⟩
abbrev cX0_searchStones : ByteArray := prog_2_method_4_code
def yX0_searchStones : MethodName := ⟨RX0, "searchStones", "(LFortressWatch$Sights;)I"⟩
abbrev cX0_search : ByteArray := prog_2_method_5_code
def yX0_search : MethodName := ⟨RX0, "search", "(LFortressWatch$Sights;[IIIII)I"⟩
abbrev cX0_fewestSeers : ByteArray := prog_2_method_6_code
def yX0_fewestSeers : MethodName := ⟨RX0, "fewestSeers", "([II)I"⟩
abbrev cX0_better : ByteArray := prog_2_method_7_code
def yX0_better : MethodName := ⟨RX0, "better", "(II)I"⟩
def RX1 : String := "FortressWatch$Gaps"
def TX1 : u_T := fun k => match k with
  | 0 => ("FortressWatch$Gaps", "first", "[I", true)
  | 1 => ("FortressWatch$Gaps", "length", "[I", true)
  | _ => ("FortressWatch$Gaps", "many", "I", false)
def tyX1 : Nat → FieldType := fun k => match k with
  | 0 => .array .int
  | 1 => .array .int
  | _ => .int
theorem nmX1 : ∀ a, a < 3 → ∀ b, b < 3 → a ≠ b → (TX1 a).2.1 ≠ (TX1 b).2.1 := by decide +kernel
theorem tyX1_ok : ∀ k, k < 3 → parseFieldDescriptor (TX1 k).2.2.1 = some (tyX1 k) := by decide +kernel
abbrev cX1_init : ByteArray := prog_3_method_1_code
def yX1_init : MethodName := ⟨RX1, "<init>", "()V"⟩
abbrev cX1_find : ByteArray := prog_3_method_2_code
def yX1_find : MethodName := ⟨RX1, "find", "(I)V"⟩
abbrev cX1_openFrom : ByteArray := prog_3_method_3_code
def yX1_openFrom : MethodName := ⟨RX1, "openFrom", "(II)I"⟩
abbrev cX1_add : ByteArray := prog_3_method_4_code
def yX1_add : MethodName := ⟨RX1, "add", "(II)V"⟩
abbrev cX1_isGap : ByteArray := prog_3_method_5_code
def yX1_isGap : MethodName := ⟨RX1, "isGap", "(I)Z"⟩
abbrev cX1_firstOf : ByteArray := prog_3_method_6_code
def yX1_firstOf : MethodName := ⟨RX1, "firstOf", "(I)I"⟩
abbrev cX1_lengthOf : ByteArray := prog_3_method_7_code
def yX1_lengthOf : MethodName := ⟨RX1, "lengthOf", "(I)I"⟩
abbrev cX1_lengthOfAll : ByteArray := prog_3_method_8_code
def yX1_lengthOfAll : MethodName := ⟨RX1, "lengthOfAll", "()I"⟩
abbrev cX1_longest : ByteArray := prog_3_method_9_code
def yX1_longest : MethodName := ⟨RX1, "longest", "()I"⟩
def RX2 : String := "FortressWatch$Line"
def TX2 : u_T := fun k => match k with
  | 0 => ("FortressWatch$Line", "codes", "[I", true)
  | _ => ("FortressWatch$Line", "length", "I", false)
def tyX2 : Nat → FieldType := fun k => match k with
  | 0 => .array .int
  | _ => .int
theorem nmX2 : ∀ a, a < 2 → ∀ b, b < 2 → a ≠ b → (TX2 a).2.1 ≠ (TX2 b).2.1 := by decide +kernel
theorem tyX2_ok : ∀ k, k < 2 → parseFieldDescriptor (TX2 k).2.2.1 = some (tyX2 k) := by decide +kernel
abbrev cX2_init : ByteArray := prog_4_method_1_code
def yX2_init : MethodName := ⟨RX2, "<init>", "()V"⟩
abbrev cX2_clear : ByteArray := prog_4_method_2_code
def yX2_clear : MethodName := ⟨RX2, "clear", "()V"⟩
abbrev cX2_put : ByteArray := prog_4_method_3_code
def yX2_put : MethodName := ⟨RX2, "put", "(I)V"⟩
abbrev cX2_putNumber : ByteArray := prog_4_method_4_code
def yX2_putNumber : MethodName := ⟨RX2, "putNumber", "(I)V"⟩
abbrev cX2_codeAt : ByteArray := prog_4_method_5_code
def yX2_codeAt : MethodName := ⟨RX2, "codeAt", "(I)I"⟩
def RX3 : String := "FortressWatch$Order"
def TX3 : u_T := fun k => match k with
  | _ => ("FortressWatch$Order", "key", "[I", true)
def tyX3 : Nat → FieldType := fun k => match k with
  | _ => .array .int
theorem nmX3 : ∀ a, a < 1 → ∀ b, b < 1 → a ≠ b → (TX3 a).2.1 ≠ (TX3 b).2.1 := by decide +kernel
theorem tyX3_ok : ∀ k, k < 1 → parseFieldDescriptor (TX3 k).2.2.1 = some (tyX3 k) := by decide +kernel
abbrev cX3_init : ByteArray := prog_5_method_1_code
def yX3_init : MethodName := ⟨RX3, "<init>", "()V"⟩
abbrev cX3_giveKey : ByteArray := prog_5_method_2_code
def yX3_giveKey : MethodName := ⟨RX3, "giveKey", "(II)V"⟩
abbrev cX3_at : ByteArray := prog_5_method_3_code
def yX3_at : MethodName := ⟨RX3, "at", "(II)I"⟩
abbrev cX3_placeOf : ByteArray := prog_5_method_4_code
def yX3_placeOf : MethodName := ⟨RX3, "placeOf", "(II)I"⟩
def RX4 : String := "FortressWatch$Past"
def TX4 : u_T := fun k => match k with
  | 0 => ("FortressWatch$Past", "walls", "[LFortressWatch$Wall;", true)
  | 1 => ("FortressWatch$Past", "top", "I", false)
  | _ => ("FortressWatch$Past", "many", "I", false)
def tyX4 : Nat → FieldType := fun k => match k with
  | 0 => .array (.object "FortressWatch$Wall")
  | 1 => .int
  | _ => .int
theorem nmX4 : ∀ a, a < 3 → ∀ b, b < 3 → a ≠ b → (TX4 a).2.1 ≠ (TX4 b).2.1 := by decide +kernel
theorem tyX4_ok : ∀ k, k < 3 → parseFieldDescriptor (TX4 k).2.2.1 = some (tyX4 k) := by decide +kernel
abbrev cX4_init : ByteArray := prog_6_method_1_code
def yX4_init : MethodName := ⟨RX4, "<init>", "()V"⟩
abbrev cX4_keep : ByteArray := prog_6_method_2_code
def yX4_keep : MethodName := ⟨RX4, "keep", "(LFortressWatch$Wall;)V"⟩
abbrev cX4_takeBack : ByteArray := prog_6_method_3_code
def yX4_takeBack : MethodName := ⟨RX4, "takeBack", "(LFortressWatch$Wall;)V"⟩
abbrev cX4_forget : ByteArray := prog_6_method_4_code
def yX4_forget : MethodName := ⟨RX4, "forget", "()V"⟩
def RX5 : String := "FortressWatch$Refused"
def TX5 : u_T := fun k => match k with
  | 0 => ("FortressWatch$Refused", "reason", "I", false)
  | 1 => ("FortressWatch$Refused", "detail", "I", false)
  | _ => ("FortressWatch$Refused", "command", "I", false)
def tyX5 : Nat → FieldType := fun k => match k with
  | 0 => .int
  | 1 => .int
  | _ => .int
theorem nmX5 : ∀ a, a < 3 → ∀ b, b < 3 → a ≠ b → (TX5 a).2.1 ≠ (TX5 b).2.1 := by decide +kernel
theorem tyX5_ok : ∀ k, k < 3 → parseFieldDescriptor (TX5 k).2.2.1 = some (tyX5 k) := by decide +kernel
abbrev cX5_init : ByteArray := prog_7_method_1_code
def yX5_init : MethodName := ⟨RX5, "<init>", "()V"⟩
abbrev cX5_tell : ByteArray := prog_7_method_2_code
def yX5_tell : MethodName := ⟨RX5, "tell", "(III)V"⟩
abbrev cX5_numberOf : ByteArray := prog_7_method_3_code
def yX5_numberOf : MethodName := ⟨RX5, "numberOf", "(I)I"⟩
def RX6 : String := "FortressWatch$Sights"
def TX6 : u_T := fun k => match k with
  | 0 => ("FortressWatch$Sights", "row", "[I", true)
  | 1 => ("FortressWatch$Sights", "posts", "I", false)
  | _ => ("FortressWatch$Sights", "manned", "I", false)
def tyX6 : Nat → FieldType := fun k => match k with
  | 0 => .array .int
  | 1 => .int
  | _ => .int
theorem nmX6 : ∀ a, a < 3 → ∀ b, b < 3 → a ≠ b → (TX6 a).2.1 ≠ (TX6 b).2.1 := by decide +kernel
theorem tyX6_ok : ∀ k, k < 3 → parseFieldDescriptor (TX6 k).2.2.1 = some (tyX6 k) := by decide +kernel
abbrev cX6_init : ByteArray := prog_8_method_1_code
def yX6_init : MethodName := ⟨RX6, "<init>", "()V"⟩
abbrev cX6_lookAt : ByteArray := prog_8_method_2_code
def yX6_lookAt : MethodName := ⟨RX6, "lookAt", "(LFortressWatch$Wall;I)V"⟩
abbrev cX6_of : ByteArray := prog_8_method_3_code
def yX6_of : MethodName := ⟨RX6, "of", "(I)I"⟩
abbrev cX6_manySeen : ByteArray := prog_8_method_4_code
def yX6_manySeen : MethodName := ⟨RX6, "manySeen", "(I)I"⟩
abbrev cX6_manySeenAlone : ByteArray := prog_8_method_5_code
def yX6_manySeenAlone : MethodName := ⟨RX6, "manySeenAlone", "(I)I"⟩
abbrev cX6_seenBySet : ByteArray := prog_8_method_6_code
def yX6_seenBySet : MethodName := ⟨RX6, "seenBySet", "(I)I"⟩
abbrev cX6_seersOf : ByteArray := prog_8_method_7_code
def yX6_seersOf : MethodName := ⟨RX6, "seersOf", "(I)I"⟩
abbrev cX6_overlaps : ByteArray := prog_8_method_8_code
def yX6_overlaps : MethodName := ⟨RX6, "overlaps", "()I"⟩
abbrev cX6_bestAmong : ByteArray := prog_8_method_9_code
def yX6_bestAmong : MethodName := ⟨RX6, "bestAmong", "(II)I"⟩
def RX7 : String := "FortressWatch$Text"
def TX7 : u_T := fun k => match k with
  | 0 => ("FortressWatch$Text", "codes", "[I", true)
  | 1 => ("FortressWatch$Text", "at", "I", false)
  | 2 => ("FortressWatch$Text", "length", "I", false)
  | 3 => ("FortressWatch$Text", "letter", "I", false)
  | 4 => ("FortressWatch$Text", "first", "I", false)
  | 5 => ("FortressWatch$Text", "second", "I", false)
  | _ => ("FortressWatch$Text", "third", "I", false)
def tyX7 : Nat → FieldType := fun k => match k with
  | 0 => .array .int
  | 1 => .int
  | 2 => .int
  | 3 => .int
  | 4 => .int
  | 5 => .int
  | _ => .int
theorem nmX7 : ∀ a, a < 7 → ∀ b, b < 7 → a ≠ b → (TX7 a).2.1 ≠ (TX7 b).2.1 := by decide +kernel
theorem tyX7_ok : ∀ k, k < 7 → parseFieldDescriptor (TX7 k).2.2.1 = some (tyX7 k) := by decide +kernel
abbrev cX7_init : ByteArray := prog_9_method_1_code
def yX7_init : MethodName := ⟨RX7, "<init>", "()V"⟩
abbrev cX7_put : ByteArray := prog_9_method_2_code
def yX7_put : MethodName := ⟨RX7, "put", "(I)I"⟩
abbrev cX7_clear : ByteArray := prog_9_method_3_code
def yX7_clear : MethodName := ⟨RX7, "clear", "()V"⟩
abbrev cX7_rewind : ByteArray := prog_9_method_4_code
def yX7_rewind : MethodName := ⟨RX7, "rewind", "()V"⟩
abbrev cX7_findFault : ByteArray := prog_9_method_5_code
def yX7_findFault : MethodName := ⟨RX7, "findFault", "()I"⟩
abbrev cX7_takeCommand : ByteArray := prog_9_method_6_code
def yX7_takeCommand : MethodName := ⟨RX7, "takeCommand", "()Z"⟩
abbrev cX7_skip : ByteArray := prog_9_method_7_code
def yX7_skip : MethodName := ⟨RX7, "skip", "(I)Z"⟩
abbrev cX7_takeFirst : ByteArray := prog_9_method_8_code
def yX7_takeFirst : MethodName := ⟨RX7, "takeFirst", "(I)Z"⟩
abbrev cX7_takeSecond : ByteArray := prog_9_method_9_code
def yX7_takeSecond : MethodName := ⟨RX7, "takeSecond", "(I)Z"⟩
abbrev cX7_takeThird : ByteArray := prog_9_method_10_code
def yX7_takeThird : MethodName := ⟨RX7, "takeThird", "(I)Z"⟩
abbrev cX7_takeNumber : ByteArray := prog_9_method_11_code
def yX7_takeNumber : MethodName := ⟨RX7, "takeNumber", "(I)I"⟩
abbrev cX7_codeHere : ByteArray := prog_9_method_12_code
def yX7_codeHere : MethodName := ⟨RX7, "codeHere", "()I"⟩
def RX8 : String := "FortressWatch$Wall"
def TX8 : u_T := fun k => match k with
  | 0 => ("FortressWatch$Wall", "stone", "[I", true)
  | 1 => ("FortressWatch$Wall", "left", "[I", true)
  | 2 => ("FortressWatch$Wall", "right", "[I", true)
  | 3 => ("FortressWatch$Wall", "blindFrom", "[I", true)
  | 4 => ("FortressWatch$Wall", "blindMany", "[I", true)
  | 5 => ("FortressWatch$Wall", "manned", "[I", true)
  | 6 => ("FortressWatch$Wall", "posts", "I", false)
  | 7 => ("FortressWatch$Wall", "hour", "I", false)
  | 8 => ("FortressWatch$Wall", "built", "I", false)
  | 9 => ("FortressWatch$Wall", "torn", "I", false)
  | _ => ("FortressWatch$Wall", "timesManned", "I", false)
def tyX8 : Nat → FieldType := fun k => match k with
  | 0 => .array .int
  | 1 => .array .int
  | 2 => .array .int
  | 3 => .array .int
  | 4 => .array .int
  | 5 => .array .int
  | 6 => .int
  | 7 => .int
  | 8 => .int
  | 9 => .int
  | _ => .int
theorem nmX8 : ∀ a, a < 11 → ∀ b, b < 11 → a ≠ b → (TX8 a).2.1 ≠ (TX8 b).2.1 := by decide +kernel
theorem tyX8_ok : ∀ k, k < 11 → parseFieldDescriptor (TX8 k).2.2.1 = some (tyX8 k) := by decide +kernel
abbrev cX8_init : ByteArray := prog_10_method_1_code
def yX8_init : MethodName := ⟨RX8, "<init>", "()V"⟩
abbrev cX8_copyFrom : ByteArray := prog_10_method_2_code
def yX8_copyFrom : MethodName := ⟨RX8, "copyFrom", "(LFortressWatch$Wall;)V"⟩
abbrev cX8_isPost : ByteArray := prog_10_method_3_code
def yX8_isPost : MethodName := ⟨RX8, "isPost", "(I)Z"⟩
abbrev cX8_postOn : ByteArray := prog_10_method_4_code
def yX8_postOn : MethodName := ⟨RX8, "postOn", "(I)I"⟩
abbrev cX8_add : ByteArray := prog_10_method_5_code
def yX8_add : MethodName := ⟨RX8, "add", "(III)I"⟩
abbrev cX8_remove : ByteArray := prog_10_method_6_code
def yX8_remove : MethodName := ⟨RX8, "remove", "(I)V"⟩
abbrev cX8_manJust : ByteArray := prog_10_method_7_code
def yX8_manJust : MethodName := ⟨RX8, "manJust", "(I)V"⟩
abbrev cX8_numberOf : ByteArray := prog_10_method_8_code
def yX8_numberOf : MethodName := ⟨RX8, "numberOf", "(II)I"⟩
abbrev cX8_accountOf : ByteArray := prog_10_method_9_code
def yX8_accountOf : MethodName := ⟨RX8, "accountOf", "(I)I"⟩
abbrev cX8_sightOf : ByteArray := prog_10_method_10_code
def yX8_sightOf : MethodName := ⟨RX8, "sightOf", "(II)I"⟩
abbrev cX8_lostByLight : ByteArray := prog_10_method_11_code
def yX8_lostByLight : MethodName := ⟨RX8, "lostByLight", "(I)I"⟩
abbrev cX8_copyPlace : ByteArray := prog_10_method_12_code
def yX8_copyPlace : MethodName := ⟨RX8, "copyPlace", "(LFortressWatch$Wall;II)V"⟩
abbrev cX8_empty : ByteArray := prog_10_method_13_code
def yX8_empty : MethodName := ⟨RX8, "empty", "(I)V"⟩
def RX9 : String := "FortressWatch"
def TX9 : u_T := fun k => match k with
  | 0 => ("FortressWatch", "wall", "LFortressWatch$Wall;", true)
  | 1 => ("FortressWatch", "before", "LFortressWatch$Wall;", true)
  | 2 => ("FortressWatch", "snapshot", "LFortressWatch$Wall;", true)
  | 3 => ("FortressWatch", "past", "LFortressWatch$Past;", true)
  | 4 => ("FortressWatch", "sights", "LFortressWatch$Sights;", true)
  | 5 => ("FortressWatch", "chooser", "LFortressWatch$Chooser;", true)
  | 6 => ("FortressWatch", "gaps", "LFortressWatch$Gaps;", true)
  | 7 => ("FortressWatch", "order", "LFortressWatch$Order;", true)
  | 8 => ("FortressWatch", "text", "LFortressWatch$Text;", true)
  | 9 => ("FortressWatch", "line", "LFortressWatch$Line;", true)
  | 10 => ("FortressWatch", "refused", "LFortressWatch$Refused;", true)
  | 11 => ("FortressWatch", "hasSnapshot", "Z", false)
  | _ => ("FortressWatch", "commandNow", "I", false)
def tyX9 : Nat → FieldType := fun k => match k with
  | 0 => .object "FortressWatch$Wall"
  | 1 => .object "FortressWatch$Wall"
  | 2 => .object "FortressWatch$Wall"
  | 3 => .object "FortressWatch$Past"
  | 4 => .object "FortressWatch$Sights"
  | 5 => .object "FortressWatch$Chooser"
  | 6 => .object "FortressWatch$Gaps"
  | 7 => .object "FortressWatch$Order"
  | 8 => .object "FortressWatch$Text"
  | 9 => .object "FortressWatch$Line"
  | 10 => .object "FortressWatch$Refused"
  | 11 => .boolean
  | _ => .int
theorem nmX9 : ∀ a, a < 13 → ∀ b, b < 13 → a ≠ b → (TX9 a).2.1 ≠ (TX9 b).2.1 := by decide +kernel
theorem tyX9_ok : ∀ k, k < 13 → parseFieldDescriptor (TX9 k).2.2.1 = some (tyX9 k) := by decide +kernel
abbrev cX9_init : ByteArray := prog_1_method_1_code
def yX9_init : MethodName := ⟨RX9, "<init>", "()V"⟩
abbrev cX9_post : ByteArray := prog_1_method_2_code
def yX9_post : MethodName := ⟨RX9, "post", "(III)I"⟩
abbrev cX9_tear : ByteArray := prog_1_method_3_code
def yX9_tear : MethodName := ⟨RX9, "tear", "(I)I"⟩
abbrev cX9_reach : ByteArray := prog_1_method_4_code
def yX9_reach : MethodName := ⟨RX9, "reach", "(III)I"⟩
abbrev cX9_blind : ByteArray := prog_1_method_5_code
def yX9_blind : MethodName := ⟨RX9, "blind", "(III)I"⟩
abbrev cX9_see : ByteArray := prog_1_method_6_code
def yX9_see : MethodName := ⟨RX9, "see", "(I)I"⟩
abbrev cX9_man : ByteArray := prog_1_method_7_code
def yX9_man : MethodName := ⟨RX9, "man", "(II)I"⟩
abbrev cX9_hour : ByteArray := prog_1_method_8_code
def yX9_hour : MethodName := ⟨RX9, "hour", "(I)I"⟩
abbrev cX9_watch : ByteArray := prog_1_method_9_code
def yX9_watch : MethodName := ⟨RX9, "watch", "()I"⟩
abbrev cX9_postOf : ByteArray := prog_1_method_10_code
def yX9_postOf : MethodName := ⟨RX9, "postOf", "(II)I"⟩
abbrev cX9_sees : ByteArray := prog_1_method_11_code
def yX9_sees : MethodName := ⟨RX9, "sees", "(II)I"⟩
abbrev cX9_watched : ByteArray := prog_1_method_12_code
def yX9_watched : MethodName := ⟨RX9, "watched", "(I)I"⟩
abbrev cX9_seenBy : ByteArray := prog_1_method_13_code
def yX9_seenBy : MethodName := ⟨RX9, "seenBy", "(I)I"⟩
abbrev cX9_gapOf : ByteArray := prog_1_method_14_code
def yX9_gapOf : MethodName := ⟨RX9, "gapOf", "(II)I"⟩
abbrev cX9_fewest : ByteArray := prog_1_method_15_code
def yX9_fewest : MethodName := ⟨RX9, "fewest", "()I"⟩
abbrev cX9_fewestAgain : ByteArray := prog_1_method_16_code
def yX9_fewestAgain : MethodName := ⟨RX9, "fewestAgain", "()I"⟩
abbrev cX9_watches : ByteArray := prog_1_method_17_code
def yX9_watches : MethodName := ⟨RX9, "watches", "()I"⟩
abbrev cX9_isFull : ByteArray := prog_1_method_18_code
def yX9_isFull : MethodName := ⟨RX9, "isFull", "(I)I"⟩
abbrev cX9_spare : ByteArray := prog_1_method_19_code
def yX9_spare : MethodName := ⟨RX9, "spare", "()I"⟩
abbrev cX9_next : ByteArray := prog_1_method_20_code
def yX9_next : MethodName := ⟨RX9, "next", "()I"⟩
abbrev cX9_greedy : ByteArray := prog_1_method_21_code
def yX9_greedy : MethodName := ⟨RX9, "greedy", "()I"⟩
abbrev cX9_wouldNeed : ByteArray := prog_1_method_22_code
def yX9_wouldNeed : MethodName := ⟨RX9, "wouldNeed", "(I)I"⟩
abbrev cX9_wouldTurn : ByteArray := prog_1_method_23_code
def yX9_wouldTurn : MethodName := ⟨RX9, "wouldTurn", "(I)I"⟩
abbrev cX9_ranked : ByteArray := prog_1_method_24_code
def yX9_ranked : MethodName := ⟨RX9, "ranked", "(II)I"⟩
abbrev cX9_describe : ByteArray := prog_1_method_25_code
def yX9_describe : MethodName := ⟨RX9, "describe", "(I)I"⟩
abbrev cX9_show : ByteArray := prog_1_method_26_code
def yX9_show : MethodName := ⟨RX9, "show", "()I"⟩
abbrev cX9_sign : ByteArray := prog_1_method_27_code
def yX9_sign : MethodName := ⟨RX9, "sign", "(I)I"⟩
abbrev cX9_append : ByteArray := prog_1_method_28_code
def yX9_append : MethodName := ⟨RX9, "append", "(I)I"⟩
abbrev cX9_read : ByteArray := prog_1_method_29_code
def yX9_read : MethodName := ⟨RX9, "read", "()I"⟩
abbrev cX9_refusal : ByteArray := prog_1_method_30_code
def yX9_refusal : MethodName := ⟨RX9, "refusal", "(I)I"⟩
abbrev cX9_account : ByteArray := prog_1_method_31_code
def yX9_account : MethodName := ⟨RX9, "account", "(I)I"⟩
abbrev cX9_isWell : ByteArray := prog_1_method_32_code
def yX9_isWell : MethodName := ⟨RX9, "isWell", "()I"⟩
abbrev cX9_mean : ByteArray := prog_1_method_33_code
def yX9_mean : MethodName := ⟨RX9, "mean", "()I"⟩
abbrev cX9_undo : ByteArray := prog_1_method_34_code
def yX9_undo : MethodName := ⟨RX9, "undo", "()I"⟩
abbrev cX9_save : ByteArray := prog_1_method_35_code
def yX9_save : MethodName := ⟨RX9, "save", "()I"⟩
abbrev cX9_restore : ByteArray := prog_1_method_36_code
def yX9_restore : MethodName := ⟨RX9, "restore", "()I"⟩
abbrev cX9_kept : ByteArray := prog_1_method_37_code
def yX9_kept : MethodName := ⟨RX9, "kept", "(I)I"⟩
abbrev cX9_refuse : ByteArray := prog_1_method_38_code
def yX9_refuse : MethodName := ⟨RX9, "refuse", "(II)I"⟩
abbrev cX9_buildPost : ByteArray := prog_1_method_39_code
def yX9_buildPost : MethodName := ⟨RX9, "buildPost", "(III)I"⟩
abbrev cX9_tearDown : ByteArray := prog_1_method_40_code
def yX9_tearDown : MethodName := ⟨RX9, "tearDown", "(I)I"⟩
abbrev cX9_tellReaches : ByteArray := prog_1_method_41_code
def yX9_tellReaches : MethodName := ⟨RX9, "tellReaches", "(III)I"⟩
abbrev cX9_tellBlindAngle : ByteArray := prog_1_method_42_code
def yX9_tellBlindAngle : MethodName := ⟨RX9, "tellBlindAngle", "(III)I"⟩
abbrev cX9_dropBlindAngle : ByteArray := prog_1_method_43_code
def yX9_dropBlindAngle : MethodName := ⟨RX9, "dropBlindAngle", "(I)I"⟩
abbrev cX9_letBeManned : ByteArray := prog_1_method_44_code
def yX9_letBeManned : MethodName := ⟨RX9, "letBeManned", "(II)I"⟩
abbrev cX9_tellHour : ByteArray := prog_1_method_45_code
def yX9_tellHour : MethodName := ⟨RX9, "tellHour", "(I)I"⟩
abbrev cX9_manFewest : ByteArray := prog_1_method_46_code
def yX9_manFewest : MethodName := ⟨RX9, "manFewest", "()I"⟩
abbrev cX9_carryOutAll : ByteArray := prog_1_method_47_code
def yX9_carryOutAll : MethodName := ⟨RX9, "carryOutAll", "()I"⟩
abbrev cX9_carryOut : ByteArray := prog_1_method_48_code
def yX9_carryOut : MethodName := ⟨RX9, "carryOut", "()I"⟩
abbrev cX9_manySeenNow : ByteArray := prog_1_method_49_code
def yX9_manySeenNow : MethodName := ⟨RX9, "manySeenNow", "(I)I"⟩
abbrev cX9_manyWatchedNow : ByteArray := prog_1_method_50_code
def yX9_manyWatchedNow : MethodName := ⟨RX9, "manyWatchedNow", "()I"⟩
abbrev cX9_manyUnseen : ByteArray := prog_1_method_51_code
def yX9_manyUnseen : MethodName := ⟨RX9, "manyUnseen", "()I"⟩
abbrev cX9_closingMost : ByteArray := prog_1_method_52_code
def yX9_closingMost : MethodName := ⟨RX9, "closingMost", "(I)I"⟩
abbrev cX9_keyOf : ByteArray := prog_1_method_53_code
def yX9_keyOf : MethodName := ⟨RX9, "keyOf", "(II)I"⟩
abbrev cX9_sightAccount : ByteArray := prog_1_method_54_code
def yX9_sightAccount : MethodName := ⟨RX9, "sightAccount", "(I)I"⟩
abbrev cX9_putMarked : ByteArray := prog_1_method_55_code
def yX9_putMarked : MethodName := ⟨RX9, "putMarked", "(II)V"⟩
abbrev cX9_signFor : ByteArray := prog_1_method_56_code
def yX9_signFor : MethodName := ⟨RX9, "signFor", "(I)I"⟩
abbrev cX9_isStone : ByteArray := prog_1_method_57_code
def yX9_isStone : MethodName := ⟨RX9, "isStone", "(I)Z"⟩
abbrev cX9_isReach : ByteArray := prog_1_method_58_code
def yX9_isReach : MethodName := ⟨RX9, "isReach", "(I)Z"⟩
abbrev cX9_isHour : ByteArray := prog_1_method_59_code
def yX9_isHour : MethodName := ⟨RX9, "isHour", "(I)Z"⟩
abbrev cX9_isIn : ByteArray := prog_1_method_60_code
def yX9_isIn : MethodName := ⟨RX9, "isIn", "(II)Z"⟩
abbrev cX9_turned : ByteArray := prog_1_method_61_code
def yX9_turned : MethodName := ⟨RX9, "turned", "(II)I"⟩
abbrev cX9_stretch : ByteArray := prog_1_method_62_code
def yX9_stretch : MethodName := ⟨RX9, "stretch", "(II)I"⟩
abbrev cX9_bitsOf : ByteArray := prog_1_method_63_code
def yX9_bitsOf : MethodName := ⟨RX9, "bitsOf", "(F)I"⟩
def RX10 : String := "FortressWatchModel"
def TX10 : u_T := fun k => match k with
  | 0 => ("FortressWatchModel", "s", "[I", true)
  | 1 => ("FortressWatchModel", "was", "[I", true)
  | 2 => ("FortressWatchModel", "saved", "[I", true)
  | 3 => ("FortressWatchModel", "past", "[I", true)
  | 4 => ("FortressWatchModel", "changes", "I", false)
  | 5 => ("FortressWatchModel", "reason", "I", false)
  | 6 => ("FortressWatchModel", "detail", "I", false)
  | 7 => ("FortressWatchModel", "refusedAt", "I", false)
  | 8 => ("FortressWatchModel", "isSaved", "Z", false)
  | 9 => ("FortressWatchModel", "line", "[I", true)
  | 10 => ("FortressWatchModel", "lined", "I", false)
  | 11 => ("FortressWatchModel", "tape", "[I", true)
  | 12 => ("FortressWatchModel", "commands", "[I", true)
  | 13 => ("FortressWatchModel", "taped", "I", false)
  | 14 => ("FortressWatchModel", "here", "I", false)
  | _ => ("FortressWatchModel", "commandMany", "I", false)
def tyX10 : Nat → FieldType := fun k => match k with
  | 0 => .array .int
  | 1 => .array .int
  | 2 => .array .int
  | 3 => .array .int
  | 4 => .int
  | 5 => .int
  | 6 => .int
  | 7 => .int
  | 8 => .boolean
  | 9 => .array .int
  | 10 => .int
  | 11 => .array .int
  | 12 => .array .int
  | 13 => .int
  | 14 => .int
  | _ => .int
theorem nmX10 : ∀ a, a < 16 → ∀ b, b < 16 → a ≠ b → (TX10 a).2.1 ≠ (TX10 b).2.1 := by decide +kernel
theorem tyX10_ok : ∀ k, k < 16 → parseFieldDescriptor (TX10 k).2.2.1 = some (tyX10 k) := by decide +kernel
abbrev cX10_init : ByteArray := prog_12_method_1_code
def yX10_init : MethodName := ⟨RX10, "<init>", "()V"⟩
abbrev cX10_isIn : ByteArray := prog_12_method_2_code
def yX10_isIn : MethodName := ⟨RX10, "isIn", "(III)Z"⟩
abbrev cX10_greater : ByteArray := prog_12_method_3_code
def yX10_greater : MethodName := ⟨RX10, "greater", "(II)I"⟩
abbrev cX10_has : ByteArray := prog_12_method_4_code
def yX10_has : MethodName := ⟨RX10, "has", "(II)Z"⟩
abbrev cX10_bits : ByteArray := prog_12_method_5_code
def yX10_bits : MethodName := ⟨RX10, "bits", "(I)I"⟩
abbrev cX10_copies : ByteArray := prog_12_method_6_code
def yX10_copies : MethodName := ⟨RX10, "copies", "([II[II)V"⟩
abbrev cX10_keeps : ByteArray := prog_12_method_7_code
def yX10_keeps : MethodName := ⟨RX10, "keeps", "()V"⟩
abbrev cX10_changed : ByteArray := prog_12_method_8_code
def yX10_changed : MethodName := ⟨RX10, "changed", "()V"⟩
abbrev cX10_ends : ByteArray := prog_12_method_9_code
def yX10_ends : MethodName := ⟨RX10, "ends", "(I)I"⟩
abbrev cX10_isRefused : ByteArray := prog_12_method_10_code
def yX10_isRefused : MethodName := ⟨RX10, "isRefused", "(ZII)Z"⟩
abbrev cX10_of : ByteArray := prog_12_method_11_code
def yX10_of : MethodName := ⟨RX10, "of", "(II)I"⟩
abbrev cX10_sets : ByteArray := prog_12_method_12_code
def yX10_sets : MethodName := ⟨RX10, "sets", "(III)V"⟩
abbrev cX10_isPost : ByteArray := prog_12_method_13_code
def yX10_isPost : MethodName := ⟨RX10, "isPost", "(I)Z"⟩
abbrev cX10_isStone : ByteArray := prog_12_method_14_code
def yX10_isStone : MethodName := ⟨RX10, "isStone", "(I)Z"⟩
abbrev cX10_isReach : ByteArray := prog_12_method_15_code
def yX10_isReach : MethodName := ⟨RX10, "isReach", "(I)Z"⟩
abbrev cX10_isHour : ByteArray := prog_12_method_16_code
def yX10_isHour : MethodName := ⟨RX10, "isHour", "(I)Z"⟩
abbrev cX10_isManned : ByteArray := prog_12_method_17_code
def yX10_isManned : MethodName := ⟨RX10, "isManned", "(I)Z"⟩
abbrev cX10_less : ByteArray := prog_12_method_18_code
def yX10_less : MethodName := ⟨RX10, "less", "(I)I"⟩
abbrev cX10_sightIn : ByteArray := prog_12_method_19_code
def yX10_sightIn : MethodName := ⟨RX10, "sightIn", "(II)I"⟩
abbrev cX10_sight : ByteArray := prog_12_method_20_code
def yX10_sight : MethodName := ⟨RX10, "sight", "(I)I"⟩
abbrev cX10_mannedSet : ByteArray := prog_12_method_21_code
def yX10_mannedSet : MethodName := ⟨RX10, "mannedSet", "()I"⟩
abbrev cX10_seenIn : ByteArray := prog_12_method_22_code
def yX10_seenIn : MethodName := ⟨RX10, "seenIn", "(II)I"⟩
abbrev cX10_seen : ByteArray := prog_12_method_23_code
def yX10_seen : MethodName := ⟨RX10, "seen", "(I)I"⟩
abbrev cX10_all : ByteArray := prog_12_method_24_code
def yX10_all : MethodName := ⟨RX10, "all", "()I"⟩
abbrev cX10_postOn : ByteArray := prog_12_method_25_code
def yX10_postOn : MethodName := ⟨RX10, "postOn", "(I)I"⟩
abbrev cX10_builds : ByteArray := prog_12_method_26_code
def yX10_builds : MethodName := ⟨RX10, "builds", "(III)I"⟩
abbrev cX10_post : ByteArray := prog_12_method_27_code
def yX10_post : MethodName := ⟨RX10, "post", "(III)I"⟩
abbrev cX10_tears : ByteArray := prog_12_method_28_code
def yX10_tears : MethodName := ⟨RX10, "tears", "(I)I"⟩
abbrev cX10_tear : ByteArray := prog_12_method_29_code
def yX10_tear : MethodName := ⟨RX10, "tear", "(I)I"⟩
abbrev cX10_reaches : ByteArray := prog_12_method_30_code
def yX10_reaches : MethodName := ⟨RX10, "reaches", "(III)I"⟩
abbrev cX10_reach : ByteArray := prog_12_method_31_code
def yX10_reach : MethodName := ⟨RX10, "reach", "(III)I"⟩
abbrev cX10_blinds : ByteArray := prog_12_method_32_code
def yX10_blinds : MethodName := ⟨RX10, "blinds", "(III)I"⟩
abbrev cX10_blind : ByteArray := prog_12_method_33_code
def yX10_blind : MethodName := ⟨RX10, "blind", "(III)I"⟩
abbrev cX10_lets : ByteArray := prog_12_method_34_code
def yX10_lets : MethodName := ⟨RX10, "lets", "(I)I"⟩
abbrev cX10_see : ByteArray := prog_12_method_35_code
def yX10_see : MethodName := ⟨RX10, "see", "(I)I"⟩
abbrev cX10_mans : ByteArray := prog_12_method_36_code
def yX10_mans : MethodName := ⟨RX10, "mans", "(II)I"⟩
abbrev cX10_man : ByteArray := prog_12_method_37_code
def yX10_man : MethodName := ⟨RX10, "man", "(II)I"⟩
abbrev cX10_tellsHour : ByteArray := prog_12_method_38_code
def yX10_tellsHour : MethodName := ⟨RX10, "tellsHour", "(I)I"⟩
abbrev cX10_hour : ByteArray := prog_12_method_39_code
def yX10_hour : MethodName := ⟨RX10, "hour", "(I)I"⟩
abbrev cX10_fewestIn : ByteArray := prog_12_method_40_code
def yX10_fewestIn : MethodName := ⟨RX10, "fewestIn", "(I)I"⟩
abbrev cX10_watching : ByteArray := prog_12_method_41_code
def yX10_watching : MethodName := ⟨RX10, "watching", "()I"⟩
abbrev cX10_watch : ByteArray := prog_12_method_42_code
def yX10_watch : MethodName := ⟨RX10, "watch", "()I"⟩
abbrev cX10_fewest : ByteArray := prog_12_method_43_code
def yX10_fewest : MethodName := ⟨RX10, "fewest", "()I"⟩
abbrev cX10_fewestAgain : ByteArray := prog_12_method_44_code
def yX10_fewestAgain : MethodName := ⟨RX10, "fewestAgain", "()I"⟩
abbrev cX10_isFewest : ByteArray := prog_12_method_45_code
def yX10_isFewest : MethodName := ⟨RX10, "isFewest", "(II)Z"⟩
abbrev cX10_watches : ByteArray := prog_12_method_46_code
def yX10_watches : MethodName := ⟨RX10, "watches", "()I"⟩
abbrev cX10_isNeeded : ByteArray := prog_12_method_47_code
def yX10_isNeeded : MethodName := ⟨RX10, "isNeeded", "(I)Z"⟩
abbrev cX10_isFull : ByteArray := prog_12_method_48_code
def yX10_isFull : MethodName := ⟨RX10, "isFull", "(I)I"⟩
abbrev cX10_spare : ByteArray := prog_12_method_49_code
def yX10_spare : MethodName := ⟨RX10, "spare", "()I"⟩
abbrev cX10_nextTo : ByteArray := prog_12_method_50_code
def yX10_nextTo : MethodName := ⟨RX10, "nextTo", "(I)I"⟩
abbrev cX10_next : ByteArray := prog_12_method_51_code
def yX10_next : MethodName := ⟨RX10, "next", "()I"⟩
abbrev cX10_greedy : ByteArray := prog_12_method_52_code
def yX10_greedy : MethodName := ⟨RX10, "greedy", "()I"⟩
abbrev cX10_wouldNeed : ByteArray := prog_12_method_53_code
def yX10_wouldNeed : MethodName := ⟨RX10, "wouldNeed", "(I)I"⟩
abbrev cX10_wouldTurn : ByteArray := prog_12_method_54_code
def yX10_wouldTurn : MethodName := ⟨RX10, "wouldTurn", "(I)I"⟩
abbrev cX10_alone : ByteArray := prog_12_method_55_code
def yX10_alone : MethodName := ⟨RX10, "alone", "(I)I"⟩
abbrev cX10_postOf : ByteArray := prog_12_method_56_code
def yX10_postOf : MethodName := ⟨RX10, "postOf", "(II)I"⟩
abbrev cX10_sees : ByteArray := prog_12_method_57_code
def yX10_sees : MethodName := ⟨RX10, "sees", "(II)I"⟩
abbrev cX10_watchers : ByteArray := prog_12_method_58_code
def yX10_watchers : MethodName := ⟨RX10, "watchers", "(I)I"⟩
abbrev cX10_watched : ByteArray := prog_12_method_59_code
def yX10_watched : MethodName := ⟨RX10, "watched", "(I)I"⟩
abbrev cX10_seenBy : ByteArray := prog_12_method_60_code
def yX10_seenBy : MethodName := ⟨RX10, "seenBy", "(I)I"⟩
abbrev cX10_beginsGap : ByteArray := prog_12_method_61_code
def yX10_beginsGap : MethodName := ⟨RX10, "beginsGap", "(II)Z"⟩
abbrev cX10_gapMany : ByteArray := prog_12_method_62_code
def yX10_gapMany : MethodName := ⟨RX10, "gapMany", "()I"⟩
abbrev cX10_gapAt : ByteArray := prog_12_method_63_code
def yX10_gapAt : MethodName := ⟨RX10, "gapAt", "(I)I"⟩
abbrev cX10_gapLength : ByteArray := prog_12_method_64_code
def yX10_gapLength : MethodName := ⟨RX10, "gapLength", "(I)I"⟩
abbrev cX10_closest : ByteArray := prog_12_method_65_code
def yX10_closest : MethodName := ⟨RX10, "closest", "(I)I"⟩
abbrev cX10_gapOf : ByteArray := prog_12_method_66_code
def yX10_gapOf : MethodName := ⟨RX10, "gapOf", "(II)I"⟩
abbrev cX10_longestGap : ByteArray := prog_12_method_67_code
def yX10_longestGap : MethodName := ⟨RX10, "longestGap", "()I"⟩
abbrev cX10_isAhead : ByteArray := prog_12_method_68_code
def yX10_isAhead : MethodName := ⟨RX10, "isAhead", "(III)Z"⟩
abbrev cX10_ranked : ByteArray := prog_12_method_69_code
def yX10_ranked : MethodName := ⟨RX10, "ranked", "(II)I"⟩
abbrev cX10_puts : ByteArray := prog_12_method_70_code
def yX10_puts : MethodName := ⟨RX10, "puts", "(I)V"⟩
abbrev cX10_number : ByteArray := prog_12_method_71_code
def yX10_number : MethodName := ⟨RX10, "number", "(I)V"⟩
abbrev cX10_describe : ByteArray := prog_12_method_72_code
def yX10_describe : MethodName := ⟨RX10, "describe", "(I)I"⟩
abbrev cX10_show : ByteArray := prog_12_method_73_code
def yX10_show : MethodName := ⟨RX10, "show", "()I"⟩
abbrev cX10_sign : ByteArray := prog_12_method_74_code
def yX10_sign : MethodName := ⟨RX10, "sign", "(I)I"⟩
abbrev cX10_append : ByteArray := prog_12_method_75_code
def yX10_append : MethodName := ⟨RX10, "append", "(I)I"⟩
abbrev cX10_signHere : ByteArray := prog_12_method_76_code
def yX10_signHere : MethodName := ⟨RX10, "signHere", "()I"⟩
abbrev cX10_isHere : ByteArray := prog_12_method_77_code
def yX10_isHere : MethodName := ⟨RX10, "isHere", "(I)Z"⟩
abbrev cX10_isNumber : ByteArray := prog_12_method_78_code
def yX10_isNumber : MethodName := ⟨RX10, "isNumber", "(II)Z"⟩
abbrev cX10_isKind : ByteArray := prog_12_method_79_code
def yX10_isKind : MethodName := ⟨RX10, "isKind", "(I)Z"⟩
abbrev cX10_readsCommand : ByteArray := prog_12_method_80_code
def yX10_readsCommand : MethodName := ⟨RX10, "readsCommand", "()Z"⟩
abbrev cX10_isText : ByteArray := prog_12_method_81_code
def yX10_isText : MethodName := ⟨RX10, "isText", "()Z"⟩
abbrev cX10_does : ByteArray := prog_12_method_82_code
def yX10_does : MethodName := ⟨RX10, "does", "(I)I"⟩
abbrev cX10_read : ByteArray := prog_12_method_83_code
def yX10_read : MethodName := ⟨RX10, "read", "()I"⟩
abbrev cX10_refusal : ByteArray := prog_12_method_84_code
def yX10_refusal : MethodName := ⟨RX10, "refusal", "(I)I"⟩
abbrev cX10_overlaps : ByteArray := prog_12_method_85_code
def yX10_overlaps : MethodName := ⟨RX10, "overlaps", "()I"⟩
abbrev cX10_account : ByteArray := prog_12_method_86_code
def yX10_account : MethodName := ⟨RX10, "account", "(I)I"⟩
abbrev cX10_isWell : ByteArray := prog_12_method_87_code
def yX10_isWell : MethodName := ⟨RX10, "isWell", "()I"⟩
abbrev cX10_mean : ByteArray := prog_12_method_88_code
def yX10_mean : MethodName := ⟨RX10, "mean", "()I"⟩
abbrev cX10_undo : ByteArray := prog_12_method_89_code
def yX10_undo : MethodName := ⟨RX10, "undo", "()I"⟩
abbrev cX10_save : ByteArray := prog_12_method_90_code
def yX10_save : MethodName := ⟨RX10, "save", "()I"⟩
abbrev cX10_restore : ByteArray := prog_12_method_91_code
def yX10_restore : MethodName := ⟨RX10, "restore", "()I"⟩
def RJxf58ca : String := "java/lang/Float"
abbrev cJxf58ca_isNaN_12338 : ByteArray := prog_13_method_6_code
def yJxf58ca_isNaN_12338 : MethodName := ⟨RJxf58ca, "isNaN", "(F)Z"⟩
abbrev cJxf58ca_floatToIntBits_5c35a : ByteArray := prog_13_method_24_code
def yJxf58ca_floatToIntBits_5c35a : MethodName := ⟨RJxf58ca, "floatToIntBits", "(F)I"⟩
def RJ6 : String := "java/lang/Integer"
abbrev cJ6_bitCount_0f7a4 : ByteArray := prog_14_method_49_code
def yJ6_bitCount_0f7a4 : MethodName := ⟨RJ6, "bitCount", "(I)I"⟩
def RJ9 : String := "java/lang/Math"
abbrev cJ9_max_7cf53 : ByteArray := prog_15_method_65_code
def yJ9_max_7cf53 : MethodName := ⟨RJ9, "max", "(II)I"⟩
abbrev cJ9_min_7cf53 : ByteArray := prog_15_method_69_code
def yJ9_min_7cf53 : MethodName := ⟨RJ9, "min", "(II)I"⟩
def RL : String := "FortressWatchLaw"
abbrev cL_law : ByteArray := code
def yL_law : MethodName := ⟨RL, "law", "([I)Z"⟩
def TB : List Cond := lw_tbl.filter goodWord
theorem tb_good : TB.all goodWord = true := by simp [TB]
theorem tb_m {w : Cond} (i : Nat) (h : lw_tbl[i]? = some w) (g : goodWord w = true) : w ∈ TB := List.mem_filter.mpr ⟨List.mem_of_getElem? h, g⟩
theorem tb_l {w : Cond} (h : w ∈ TB) : w ∈ lw_tbl := (List.mem_filter.mp h).1
/-- a method's instructions, all at once -/
def Tab (cc : ByteArray) (tab : List (Nat × Instr × Nat)) : Bool := tab.all (fun q => decide (decode cc q.1 = .ok q.2))
theorem dg {cc : ByteArray} {tab : List (Nat × Instr × Nat)} (h : Tab cc tab = true) (i : Nat) {pc len : Nat} {ins : Instr} (ht : tab[i]? = some (pc, ins, len)) : decode cc pc = .ok (ins, len) := by
  have h1 := List.all_eq_true.mp h _ (List.mem_of_getElem? ht)
  have h2 : decide (decode cc (pc, ins, len).1 = .ok (pc, ins, len).2) = true := h1
  rw [decide_eq_true_iff] at h2
  exact h2
def tX0_init : List (Nat × Instr × Nat) := [(0, .aload_n 0, 1), (1, .invokespecial 3, 3), (4, .aload_n 0, 1), (5, .sipush 512, 3), (8, .newarray .int, 2), (10, .putfield 9, 3), (13, .aload_n 0, 1), (14, .bipush 24, 2), (16, .newarray .int, 2), (18, .putfield 15, 3), (21, .return_, 1)]
set_option maxRecDepth 20000 in
theorem DX0_init : Tab cX0_init tX0_init = true := by decide +kernel
def tX0_trySets : List (Nat × Instr × Nat) := [(0, .aload_n 0, 1), (1, .bipush (-4), 2), (3, .putfield 18, 3), (6, .aload_n 0, 1), (7, .iconst 0, 1), (8, .putfield 22, 3), (11, .aload_n 0, 1), (12, .iconst 0, 1), (13, .putfield 25, 3), (16, .bipush 10, 2), (18, .istore_n 2, 1), (19, .iconst 1, 1), (20, .aload_n 1, 1), (21, .getfield 28, 3), (24, .ishl, 1), (25, .istore_n 3, 1), (26, .aload_n 0, 1), (27, .aload_n 1, 1), (28, .invokevirtual 33, 3), (31, .iconst 0, 1), (32, .istore 4, 2), (34, .iload 4, 2), (36, .iload_n 3, 1), (37, .if_icmp .ge 94, 3), (40, .iload 4, 2), (42, .aload_n 0, 1), (43, .getfield 9, 3), (46, .arraylength, 1), (47, .if_icmp .ge 84, 3), (50, .iload 4, 2), (52, .invokestatic 37, 3), (55, .istore 5, 2), (57, .aload_n 0, 1), (58, .getfield 9, 3), (61, .iload 4, 2), (63, .iaload, 1), (64, .ldc 43, 2), (66, .if_icmp .ne 59, 3), (69, .iload 5, 2), (71, .iload_n 2, 1), (72, .if_icmp .le 6, 3), (75, .goto 50, 3), (78, .iload 5, 2), (80, .iload_n 2, 1), (81, .if_icmp .ge 23, 3), (84, .iload 5, 2), (86, .istore_n 2, 1), (87, .aload_n 0, 1), (88, .iload 4, 2), (90, .putfield 18, 3), (93, .aload_n 0, 1), (94, .iconst 0, 1), (95, .putfield 22, 3), (98, .aload_n 0, 1), (99, .iload 4, 2), (101, .putfield 25, 3), (104, .aload_n 0, 1), (105, .dup, 1), (106, .getfield 22, 3), (109, .iconst 1, 1), (110, .iadd, 1), (111, .putfield 22, 3), (114, .aload_n 0, 1), (115, .dup, 1), (116, .getfield 25, 3), (119, .iload 4, 2), (121, .iand, 1), (122, .putfield 25, 3), (125, .iinc 4 1, 3), (128, .goto (-94), 3), (131, .return_, 1)]
set_option maxRecDepth 20000 in
theorem DX0_trySets : Tab cX0_trySets tX0_trySets = true := by decide +kernel
def tX0_fillSets : List (Nat × Instr × Nat) := [(0, .aload_n 0, 1), (1, .getfield 9, 3), (4, .iconst 0, 1), (5, .iconst 0, 1), (6, .iastore, 1), (7, .iconst 0, 1), (8, .istore_n 2, 1), (9, .iload_n 2, 1), (10, .bipush 9, 2), (12, .if_icmp .ge 76, 3), (15, .iload_n 2, 1), (16, .aload_n 1, 1), (17, .getfield 28, 3), (20, .if_icmp .ge 68, 3), (23, .aload_n 1, 1), (24, .iload_n 2, 1), (25, .invokevirtual 44, 3), (28, .istore_n 3, 1), (29, .iconst 1, 1), (30, .iload_n 2, 1), (31, .ishl, 1), (32, .istore 4, 2), (34, .iconst 0, 1), (35, .istore 5, 2), (37, .iload 5, 2), (39, .iload 4, 2), (41, .if_icmp .ge 41, 3), (44, .iload 4, 2), (46, .iload 5, 2), (48, .iadd, 1), (49, .aload_n 0, 1), (50, .getfield 9, 3), (53, .arraylength, 1), (54, .if_icmp .ge 28, 3), (57, .aload_n 0, 1), (58, .getfield 9, 3), (61, .iload 4, 2), (63, .iload 5, 2), (65, .iadd, 1), (66, .aload_n 0, 1), (67, .getfield 9, 3), (70, .iload 5, 2), (72, .iaload, 1), (73, .iload_n 3, 1), (74, .ior, 1), (75, .iastore, 1), (76, .iinc 5 1, 3), (79, .goto (-42), 3), (82, .iinc 2 1, 3), (85, .goto (-76), 3), (88, .return_, 1)]
set_option maxRecDepth 20000 in
theorem DX0_fillSets : Tab cX0_fillSets tX0_fillSets = true := by decide +kernel
def tX0_searchStones : List (Nat × Instr × Nat) := [(0, .iconst 0, 1), (1, .istore_n 2, 1), (2, .iload_n 2, 1), (3, .bipush 24, 2), (5, .if_icmp .ge 20, 3), (8, .aload_n 0, 1), (9, .getfield 15, 3), (12, .iload_n 2, 1), (13, .aload_n 1, 1), (14, .iload_n 2, 1), (15, .invokevirtual 47, 3), (18, .iastore, 1), (19, .iinc 2 1, 3), (22, .goto (-20), 3), (25, .aload_n 1, 1), (26, .aload_n 0, 1), (27, .getfield 15, 3), (30, .ldc 43, 2), (32, .iconst 0, 1), (33, .bipush (-4), 2), (35, .iconst 0, 1), (36, .invokestatic 50, 3), (39, .ireturn, 1)]
set_option maxRecDepth 20000 in
theorem DX0_searchStones : Tab cX0_searchStones tX0_searchStones = true := by decide +kernel
def tX0_search : List (Nat × Instr × Nat) := [(0, .iload_n 2, 1), (1, .ifCond .ne 10, 3), (4, .iload_n 3, 1), (5, .iload 4, 2), (7, .invokestatic 54, 3), (10, .ireturn, 1), (11, .iload 5, 2), (13, .bipush 9, 2), (15, .if_icmp .ge 20, 3), (18, .iload 4, 2), (20, .bipush (-4), 2), (22, .if_icmp .eq 16, 3), (25, .iload 5, 2), (27, .iload 4, 2), (29, .invokestatic 37, 3), (32, .if_icmp .lt 6, 3), (35, .iload 4, 2), (37, .ireturn, 1), (38, .aload_n 1, 1), (39, .iload_n 2, 1), (40, .invokestatic 58, 3), (43, .istore 6, 2), (45, .iload 4, 2), (47, .istore 7, 2), (49, .iconst 0, 1), (50, .istore 8, 2), (52, .iload 8, 2), (54, .bipush 9, 2), (56, .if_icmp .ge 48, 3), (59, .iload 6, 2), (61, .iload 8, 2), (63, .invokestatic 62, 3), (66, .ifCond .eq 32, 3), (69, .aload_n 0, 1), (70, .aload_n 1, 1), (71, .iload_n 2, 1), (72, .aload_n 0, 1), (73, .iload 8, 2), (75, .invokevirtual 44, 3), (78, .iconst (-1), 1), (79, .ixor, 1), (80, .iand, 1), (81, .iload_n 3, 1), (82, .iconst 1, 1), (83, .iload 8, 2), (85, .ishl, 1), (86, .ior, 1), (87, .iload 7, 2), (89, .iload 5, 2), (91, .iconst 1, 1), (92, .iadd, 1), (93, .invokestatic 50, 3), (96, .istore 7, 2), (98, .iinc 8 1, 3), (101, .goto (-49), 3), (104, .iload 7, 2), (106, .ireturn, 1)]
set_option maxRecDepth 20000 in
theorem DX0_search : Tab cX0_search tX0_search = true := by decide +kernel
def tX0_fewestSeers : List (Nat × Instr × Nat) := [(0, .iconst 0, 1), (1, .istore_n 2, 1), (2, .bipush 10, 2), (4, .istore_n 3, 1), (5, .iconst 0, 1), (6, .istore 4, 2), (8, .iload 4, 2), (10, .bipush 24, 2), (12, .if_icmp .ge 48, 3), (15, .iload 4, 2), (17, .aload_n 0, 1), (18, .arraylength, 1), (19, .if_icmp .ge 41, 3), (22, .aload_n 0, 1), (23, .iload 4, 2), (25, .iaload, 1), (26, .invokestatic 37, 3), (29, .istore 5, 2), (31, .iload_n 1, 1), (32, .iload 4, 2), (34, .invokestatic 62, 3), (37, .ifCond .eq 17, 3), (40, .iload 5, 2), (42, .iload_n 3, 1), (43, .if_icmp .ge 11, 3), (46, .iload 5, 2), (48, .istore_n 3, 1), (49, .aload_n 0, 1), (50, .iload 4, 2), (52, .iaload, 1), (53, .istore_n 2, 1), (54, .iinc 4 1, 3), (57, .goto (-49), 3), (60, .iload_n 2, 1), (61, .ireturn, 1)]
set_option maxRecDepth 20000 in
theorem DX0_fewestSeers : Tab cX0_fewestSeers tX0_fewestSeers = true := by decide +kernel
def tX0_better : List (Nat × Instr × Nat) := [(0, .iload_n 1, 1), (1, .bipush (-4), 2), (3, .if_icmp .ne 5, 3), (6, .iload_n 0, 1), (7, .ireturn, 1), (8, .iload_n 0, 1), (9, .invokestatic 37, 3), (12, .iload_n 1, 1), (13, .invokestatic 37, 3), (16, .isub, 1), (17, .istore_n 2, 1), (18, .iload_n 2, 1), (19, .ifCond .lt 12, 3), (22, .iload_n 2, 1), (23, .ifCond .ne 12, 3), (26, .iload_n 0, 1), (27, .iload_n 1, 1), (28, .if_icmp .ge 7, 3), (31, .iload_n 0, 1), (32, .goto 4, 3), (35, .iload_n 1, 1), (36, .ireturn, 1)]
set_option maxRecDepth 20000 in
theorem DX0_better : Tab cX0_better tX0_better = true := by decide +kernel
def tX1_init : List (Nat × Instr × Nat) := [(0, .aload_n 0, 1), (1, .invokespecial 3, 3), (4, .aload_n 0, 1), (5, .bipush 12, 2), (7, .newarray .int, 2), (9, .putfield 9, 3), (12, .aload_n 0, 1), (13, .bipush 12, 2), (15, .newarray .int, 2), (17, .putfield 15, 3), (20, .return_, 1)]
set_option maxRecDepth 20000 in
theorem DX1_init : Tab cX1_init tX1_init = true := by decide +kernel
def tX1_find : List (Nat × Instr × Nat) := [(0, .aload_n 0, 1), (1, .iconst 0, 1), (2, .putfield 18, 3), (5, .iload_n 1, 1), (6, .ifCond .ne 11, 3), (9, .aload_n 0, 1), (10, .iconst 0, 1), (11, .bipush 24, 2), (13, .invokevirtual 22, 3), (16, .return_, 1), (17, .iload_n 1, 1), (18, .iconst 1, 1), (19, .invokestatic 26, 3), (22, .istore_n 2, 1), (23, .iconst 0, 1), (24, .istore_n 3, 1), (25, .iload_n 3, 1), (26, .bipush 24, 2), (28, .if_icmp .ge 35, 3), (31, .iload_n 1, 1), (32, .iload_n 3, 1), (33, .invokestatic 30, 3), (36, .ifCond .ne 21, 3), (39, .iload_n 2, 1), (40, .iload_n 3, 1), (41, .invokestatic 30, 3), (44, .ifCond .eq 13, 3), (47, .aload_n 0, 1), (48, .iload_n 3, 1), (49, .iload_n 1, 1), (50, .iload_n 3, 1), (51, .invokestatic 34, 3), (54, .invokevirtual 22, 3), (57, .iinc 3 1, 3), (60, .goto (-35), 3), (63, .return_, 1)]
set_option maxRecDepth 20000 in
theorem DX1_find : Tab cX1_find tX1_find = true := by decide +kernel
def tX1_openFrom : List (Nat × Instr × Nat) := [(0, .iload_n 1, 1), (1, .istore_n 2, 1), (2, .iconst 0, 1), (3, .istore_n 3, 1), (4, .iload_n 3, 1), (5, .bipush 24, 2), (7, .if_icmp .ge 33, 3), (10, .iload_n 0, 1), (11, .iload_n 2, 1), (12, .invokestatic 30, 3), (15, .ifCond .eq 5, 3), (18, .iload_n 3, 1), (19, .ireturn, 1), (20, .iload_n 2, 1), (21, .bipush 23, 2), (23, .if_icmp .ne 7, 3), (26, .iconst 0, 1), (27, .goto 6, 3), (30, .iload_n 2, 1), (31, .iconst 1, 1), (32, .iadd, 1), (33, .istore_n 2, 1), (34, .iinc 3 1, 3), (37, .goto (-33), 3), (40, .bipush 24, 2), (42, .ireturn, 1)]
set_option maxRecDepth 20000 in
theorem DX1_openFrom : Tab cX1_openFrom tX1_openFrom = true := by decide +kernel
def tX1_add : List (Nat × Instr × Nat) := [(0, .aload_n 0, 1), (1, .getfield 18, 3), (4, .ifCond .lt 42, 3), (7, .aload_n 0, 1), (8, .getfield 18, 3), (11, .bipush 12, 2), (13, .if_icmp .ge 33, 3), (16, .aload_n 0, 1), (17, .getfield 9, 3), (20, .aload_n 0, 1), (21, .getfield 18, 3), (24, .iload_n 1, 1), (25, .iastore, 1), (26, .aload_n 0, 1), (27, .getfield 15, 3), (30, .aload_n 0, 1), (31, .getfield 18, 3), (34, .iload_n 2, 1), (35, .iastore, 1), (36, .aload_n 0, 1), (37, .dup, 1), (38, .getfield 18, 3), (41, .iconst 1, 1), (42, .iadd, 1), (43, .putfield 18, 3), (46, .return_, 1)]
set_option maxRecDepth 20000 in
theorem DX1_add : Tab cX1_add tX1_add = true := by decide +kernel
def tX1_isGap : List (Nat × Instr × Nat) := [(0, .iload_n 1, 1), (1, .ifCond .lt 21, 3), (4, .iload_n 1, 1), (5, .aload_n 0, 1), (6, .getfield 18, 3), (9, .if_icmp .ge 13, 3), (12, .iload_n 1, 1), (13, .bipush 12, 2), (15, .if_icmp .ge 7, 3), (18, .iconst 1, 1), (19, .goto 4, 3), (22, .iconst 0, 1), (23, .ireturn, 1)]
set_option maxRecDepth 20000 in
theorem DX1_isGap : Tab cX1_isGap tX1_isGap = true := by decide +kernel
def tX1_firstOf : List (Nat × Instr × Nat) := [(0, .aload_n 0, 1), (1, .iload_n 1, 1), (2, .invokevirtual 37, 3), (5, .ifCond .eq 12, 3), (8, .aload_n 0, 1), (9, .getfield 9, 3), (12, .iload_n 1, 1), (13, .iaload, 1), (14, .goto 4, 3), (17, .iconst 0, 1), (18, .ireturn, 1)]
set_option maxRecDepth 20000 in
theorem DX1_firstOf : Tab cX1_firstOf tX1_firstOf = true := by decide +kernel
def tX1_lengthOf : List (Nat × Instr × Nat) := [(0, .aload_n 0, 1), (1, .iload_n 1, 1), (2, .invokevirtual 37, 3), (5, .ifCond .eq 12, 3), (8, .aload_n 0, 1), (9, .getfield 15, 3), (12, .iload_n 1, 1), (13, .iaload, 1), (14, .goto 4, 3), (17, .iconst 0, 1), (18, .ireturn, 1)]
set_option maxRecDepth 20000 in
theorem DX1_lengthOf : Tab cX1_lengthOf tX1_lengthOf = true := by decide +kernel
def tX1_lengthOfAll : List (Nat × Instr × Nat) := [(0, .iconst 0, 1), (1, .istore_n 1, 1), (2, .iconst 0, 1), (3, .istore_n 2, 1), (4, .iload_n 2, 1), (5, .bipush 12, 2), (7, .if_icmp .ge 17, 3), (10, .iload_n 1, 1), (11, .aload_n 0, 1), (12, .iload_n 2, 1), (13, .invokevirtual 41, 3), (16, .iadd, 1), (17, .istore_n 1, 1), (18, .iinc 2 1, 3), (21, .goto (-17), 3), (24, .iload_n 1, 1), (25, .ireturn, 1)]
set_option maxRecDepth 20000 in
theorem DX1_lengthOfAll : Tab cX1_lengthOfAll tX1_lengthOfAll = true := by decide +kernel
def tX1_longest : List (Nat × Instr × Nat) := [(0, .iconst 0, 1), (1, .istore_n 1, 1), (2, .iconst 0, 1), (3, .istore_n 2, 1), (4, .iload_n 2, 1), (5, .bipush 12, 2), (7, .if_icmp .ge 19, 3), (10, .iload_n 1, 1), (11, .aload_n 0, 1), (12, .iload_n 2, 1), (13, .invokevirtual 41, 3), (16, .invokestatic 45, 3), (19, .istore_n 1, 1), (20, .iinc 2 1, 3), (23, .goto (-19), 3), (26, .iload_n 1, 1), (27, .ireturn, 1)]
set_option maxRecDepth 20000 in
theorem DX1_longest : Tab cX1_longest tX1_longest = true := by decide +kernel
def tX2_init : List (Nat × Instr × Nat) := [(0, .aload_n 0, 1), (1, .invokespecial 3, 3), (4, .aload_n 0, 1), (5, .bipush 24, 2), (7, .newarray .int, 2), (9, .putfield 9, 3), (12, .return_, 1)]
set_option maxRecDepth 20000 in
theorem DX2_init : Tab cX2_init tX2_init = true := by decide +kernel
def tX2_clear : List (Nat × Instr × Nat) := [(0, .aload_n 0, 1), (1, .iconst 0, 1), (2, .putfield 15, 3), (5, .return_, 1)]
set_option maxRecDepth 20000 in
theorem DX2_clear : Tab cX2_clear tX2_clear = true := by decide +kernel
def tX2_put : List (Nat × Instr × Nat) := [(0, .aload_n 0, 1), (1, .getfield 15, 3), (4, .ifCond .lt 32, 3), (7, .aload_n 0, 1), (8, .getfield 15, 3), (11, .bipush 24, 2), (13, .if_icmp .ge 23, 3), (16, .aload_n 0, 1), (17, .getfield 9, 3), (20, .aload_n 0, 1), (21, .getfield 15, 3), (24, .iload_n 1, 1), (25, .iastore, 1), (26, .aload_n 0, 1), (27, .dup, 1), (28, .getfield 15, 3), (31, .iconst 1, 1), (32, .iadd, 1), (33, .putfield 15, 3), (36, .return_, 1)]
set_option maxRecDepth 20000 in
theorem DX2_put : Tab cX2_put tX2_put = true := by decide +kernel
def tX2_putNumber : List (Nat × Instr × Nat) := [(0, .iload_n 1, 1), (1, .bipush 10, 2), (3, .if_icmp .lt 14, 3), (6, .aload_n 0, 1), (7, .bipush 48, 2), (9, .iload_n 1, 1), (10, .bipush 10, 2), (12, .idiv, 1), (13, .iadd, 1), (14, .invokevirtual 19, 3), (17, .aload_n 0, 1), (18, .bipush 48, 2), (20, .iload_n 1, 1), (21, .bipush 10, 2), (23, .irem, 1), (24, .iadd, 1), (25, .invokevirtual 19, 3), (28, .return_, 1)]
set_option maxRecDepth 20000 in
theorem DX2_putNumber : Tab cX2_putNumber tX2_putNumber = true := by decide +kernel
def tX2_codeAt : List (Nat × Instr × Nat) := [(0, .iload_n 1, 1), (1, .ifCond .lt 26, 3), (4, .iload_n 1, 1), (5, .aload_n 0, 1), (6, .getfield 15, 3), (9, .if_icmp .ge 18, 3), (12, .iload_n 1, 1), (13, .bipush 24, 2), (15, .if_icmp .ge 12, 3), (18, .aload_n 0, 1), (19, .getfield 9, 3), (22, .iload_n 1, 1), (23, .iaload, 1), (24, .goto 4, 3), (27, .iconst (-1), 1), (28, .ireturn, 1)]
set_option maxRecDepth 20000 in
theorem DX2_codeAt : Tab cX2_codeAt tX2_codeAt = true := by decide +kernel
def tX3_init : List (Nat × Instr × Nat) := [(0, .aload_n 0, 1), (1, .invokespecial 3, 3), (4, .aload_n 0, 1), (5, .bipush 9, 2), (7, .newarray .int, 2), (9, .putfield 9, 3), (12, .return_, 1)]
set_option maxRecDepth 20000 in
theorem DX3_init : Tab cX3_init tX3_init = true := by decide +kernel
def tX3_giveKey : List (Nat × Instr × Nat) := [(0, .iload_n 1, 1), (1, .ifCond .lt 16, 3), (4, .iload_n 1, 1), (5, .bipush 9, 2), (7, .if_icmp .ge 10, 3), (10, .aload_n 0, 1), (11, .getfield 9, 3), (14, .iload_n 1, 1), (15, .iload_n 2, 1), (16, .iastore, 1), (17, .return_, 1)]
set_option maxRecDepth 20000 in
theorem DX3_giveKey : Tab cX3_giveKey tX3_giveKey = true := by decide +kernel
def tX3_at : List (Nat × Instr × Nat) := [(0, .iconst 0, 1), (1, .istore_n 3, 1), (2, .iload_n 3, 1), (3, .bipush 9, 2), (5, .if_icmp .ge 26, 3), (8, .iload_n 3, 1), (9, .iload_n 2, 1), (10, .if_icmp .ge 15, 3), (13, .aload_n 0, 1), (14, .iload_n 3, 1), (15, .iload_n 2, 1), (16, .invokevirtual 15, 3), (19, .iload_n 1, 1), (20, .if_icmp .ne 5, 3), (23, .iload_n 3, 1), (24, .ireturn, 1), (25, .iinc 3 1, 3), (28, .goto (-26), 3), (31, .iconst (-1), 1), (32, .ireturn, 1)]
set_option maxRecDepth 20000 in
theorem DX3_at : Tab cX3_at tX3_at = true := by decide +kernel
def tX3_placeOf : List (Nat × Instr × Nat) := [(0, .iconst 0, 1), (1, .istore_n 3, 1), (2, .iconst 0, 1), (3, .istore 4, 2), (5, .iload 4, 2), (7, .bipush 9, 2), (9, .if_icmp .ge 56, 3), (12, .iload 4, 2), (14, .iload_n 2, 1), (15, .if_icmp .ge 50, 3), (18, .aload_n 0, 1), (19, .getfield 9, 3), (22, .iload 4, 2), (24, .iaload, 1), (25, .aload_n 0, 1), (26, .getfield 9, 3), (29, .iload_n 1, 1), (30, .iaload, 1), (31, .if_icmp .gt 25, 3), (34, .aload_n 0, 1), (35, .getfield 9, 3), (38, .iload 4, 2), (40, .iaload, 1), (41, .aload_n 0, 1), (42, .getfield 9, 3), (45, .iload_n 1, 1), (46, .iaload, 1), (47, .if_icmp .ne 12, 3), (50, .iload 4, 2), (52, .iload_n 1, 1), (53, .if_icmp .ge 6, 3), (56, .iinc 3 1, 3), (59, .iinc 4 1, 3), (62, .goto (-57), 3), (65, .iload_n 3, 1), (66, .ireturn, 1)]
set_option maxRecDepth 20000 in
theorem DX3_placeOf : Tab cX3_placeOf tX3_placeOf = true := by decide +kernel
def tX4_init : List (Nat × Instr × Nat) := [(0, .aload_n 0, 1), (1, .invokespecial 3, 3), (4, .aload_n 0, 1), (5, .bipush 8, 2), (7, .anewarray 9, 3), (10, .putfield 11, 3), (13, .iconst 0, 1), (14, .istore_n 1, 1), (15, .iload_n 1, 1), (16, .bipush 8, 2), (18, .if_icmp .ge 22, 3), (21, .aload_n 0, 1), (22, .getfield 11, 3), (25, .iload_n 1, 1), (26, .new 9, 3), (29, .dup, 1), (30, .invokespecial 17, 3), (33, .aastore, 1), (34, .iinc 1 1, 3), (37, .goto (-22), 3), (40, .return_, 1)]
set_option maxRecDepth 20000 in
theorem DX4_init : Tab cX4_init tX4_init = true := by decide +kernel
def tX4_keep : List (Nat × Instr × Nat) := [(0, .aload_n 0, 1), (1, .getfield 11, 3), (4, .aload_n 0, 1), (5, .getfield 18, 3), (8, .bipush 7, 2), (10, .iand, 1), (11, .aaload, 1), (12, .astore_n 2, 1), (13, .aload_n 2, 1), (14, .ifnull 8, 3), (17, .aload_n 2, 1), (18, .aload_n 1, 1), (19, .invokevirtual 22, 3), (22, .aload_n 0, 1), (23, .dup, 1), (24, .getfield 18, 3), (27, .iconst 1, 1), (28, .iadd, 1), (29, .putfield 18, 3), (32, .aload_n 0, 1), (33, .aload_n 0, 1), (34, .getfield 26, 3), (37, .iconst 1, 1), (38, .iadd, 1), (39, .bipush 8, 2), (41, .invokestatic 29, 3), (44, .putfield 26, 3), (47, .return_, 1)]
set_option maxRecDepth 20000 in
theorem DX4_keep : Tab cX4_keep tX4_keep = true := by decide +kernel
def tX4_takeBack : List (Nat × Instr × Nat) := [(0, .aload_n 0, 1), (1, .dup, 1), (2, .getfield 18, 3), (5, .iconst 1, 1), (6, .isub, 1), (7, .putfield 18, 3), (10, .aload_n 0, 1), (11, .dup, 1), (12, .getfield 26, 3), (15, .iconst 1, 1), (16, .isub, 1), (17, .putfield 26, 3), (20, .aload_n 0, 1), (21, .getfield 11, 3), (24, .aload_n 0, 1), (25, .getfield 18, 3), (28, .bipush 7, 2), (30, .iand, 1), (31, .aaload, 1), (32, .astore_n 2, 1), (33, .aload_n 2, 1), (34, .ifnull 8, 3), (37, .aload_n 1, 1), (38, .aload_n 2, 1), (39, .invokevirtual 22, 3), (42, .return_, 1)]
set_option maxRecDepth 20000 in
theorem DX4_takeBack : Tab cX4_takeBack tX4_takeBack = true := by decide +kernel
def tX4_forget : List (Nat × Instr × Nat) := [(0, .aload_n 0, 1), (1, .iconst 0, 1), (2, .putfield 26, 3), (5, .return_, 1)]
set_option maxRecDepth 20000 in
theorem DX4_forget : Tab cX4_forget tX4_forget = true := by decide +kernel
def tX5_init : List (Nat × Instr × Nat) := [(0, .aload_n 0, 1), (1, .invokespecial 3, 3), (4, .return_, 1)]
set_option maxRecDepth 20000 in
theorem DX5_init : Tab cX5_init tX5_init = true := by decide +kernel
def tX5_tell : List (Nat × Instr × Nat) := [(0, .aload_n 0, 1), (1, .iload_n 1, 1), (2, .putfield 9, 3), (5, .aload_n 0, 1), (6, .iload_n 2, 1), (7, .putfield 15, 3), (10, .aload_n 0, 1), (11, .iload_n 3, 1), (12, .putfield 18, 3), (15, .return_, 1)]
set_option maxRecDepth 20000 in
theorem DX5_tell : Tab cX5_tell tX5_tell = true := by decide +kernel
def tX5_numberOf : List (Nat × Instr × Nat) := [(0, .aload_n 0, 1), (1, .getfield 9, 3), (4, .ifCond .ne 6, 3), (7, .bipush (-4), 2), (9, .ireturn, 1), (10, .iload_n 1, 1), (11, .ifCond .ne 8, 3), (14, .aload_n 0, 1), (15, .getfield 9, 3), (18, .ireturn, 1), (19, .iload_n 1, 1), (20, .iconst 1, 1), (21, .if_icmp .ne 10, 3), (24, .aload_n 0, 1), (25, .getfield 15, 3), (28, .goto 7, 3), (31, .aload_n 0, 1), (32, .getfield 18, 3), (35, .ireturn, 1)]
set_option maxRecDepth 20000 in
theorem DX5_numberOf : Tab cX5_numberOf tX5_numberOf = true := by decide +kernel
def tX6_init : List (Nat × Instr × Nat) := [(0, .aload_n 0, 1), (1, .invokespecial 3, 3), (4, .aload_n 0, 1), (5, .bipush 9, 2), (7, .newarray .int, 2), (9, .putfield 9, 3), (12, .return_, 1)]
set_option maxRecDepth 20000 in
theorem DX6_init : Tab cX6_init tX6_init = true := by decide +kernel
def tX6_lookAt : List (Nat × Instr × Nat) := [(0, .aload_n 0, 1), (1, .aload_n 1, 1), (2, .getfield 15, 3), (5, .putfield 21, 3), (8, .aload_n 0, 1), (9, .iconst 0, 1), (10, .putfield 22, 3), (13, .iconst 0, 1), (14, .istore_n 3, 1), (15, .iload_n 3, 1), (16, .bipush 9, 2), (18, .if_icmp .ge 38, 3), (21, .aload_n 0, 1), (22, .getfield 9, 3), (25, .iload_n 3, 1), (26, .aload_n 1, 1), (27, .iload_n 3, 1), (28, .iload_n 2, 1), (29, .invokevirtual 25, 3), (32, .iastore, 1), (33, .aload_n 0, 1), (34, .dup, 1), (35, .getfield 22, 3), (38, .aload_n 1, 1), (39, .getfield 29, 3), (42, .iload_n 3, 1), (43, .iaload, 1), (44, .iload_n 3, 1), (45, .ishl, 1), (46, .ior, 1), (47, .putfield 22, 3), (50, .iinc 3 1, 3), (53, .goto (-38), 3), (56, .return_, 1)]
set_option maxRecDepth 20000 in
theorem DX6_lookAt : Tab cX6_lookAt tX6_lookAt = true := by decide +kernel
def tX6_of : List (Nat × Instr × Nat) := [(0, .iload_n 1, 1), (1, .ifCond .lt 18, 3), (4, .iload_n 1, 1), (5, .bipush 9, 2), (7, .if_icmp .ge 12, 3), (10, .aload_n 0, 1), (11, .getfield 9, 3), (14, .iload_n 1, 1), (15, .iaload, 1), (16, .goto 4, 3), (19, .iconst 0, 1), (20, .ireturn, 1)]
set_option maxRecDepth 20000 in
theorem DX6_of : Tab cX6_of tX6_of = true := by decide +kernel
def tX6_manySeen : List (Nat × Instr × Nat) := [(0, .aload_n 0, 1), (1, .iload_n 1, 1), (2, .invokevirtual 31, 3), (5, .invokestatic 35, 3), (8, .ireturn, 1)]
set_option maxRecDepth 20000 in
theorem DX6_manySeen : Tab cX6_manySeen tX6_manySeen = true := by decide +kernel
def tX6_manySeenAlone : List (Nat × Instr × Nat) := [(0, .aload_n 0, 1), (1, .iload_n 1, 1), (2, .invokevirtual 31, 3), (5, .aload_n 0, 1), (6, .sipush 511, 3), (9, .iconst 1, 1), (10, .iload_n 1, 1), (11, .ishl, 1), (12, .iconst (-1), 1), (13, .ixor, 1), (14, .iand, 1), (15, .invokevirtual 40, 3), (18, .iconst (-1), 1), (19, .ixor, 1), (20, .iand, 1), (21, .invokestatic 35, 3), (24, .ireturn, 1)]
set_option maxRecDepth 20000 in
theorem DX6_manySeenAlone : Tab cX6_manySeenAlone tX6_manySeenAlone = true := by decide +kernel
def tX6_seenBySet : List (Nat × Instr × Nat) := [(0, .iconst 0, 1), (1, .istore_n 2, 1), (2, .iconst 0, 1), (3, .istore_n 3, 1), (4, .iload_n 3, 1), (5, .bipush 9, 2), (7, .if_icmp .ge 26, 3), (10, .iload_n 1, 1), (11, .iload_n 3, 1), (12, .invokestatic 43, 3), (15, .ifCond .eq 12, 3), (18, .iload_n 2, 1), (19, .aload_n 0, 1), (20, .getfield 9, 3), (23, .iload_n 3, 1), (24, .iaload, 1), (25, .ior, 1), (26, .istore_n 2, 1), (27, .iinc 3 1, 3), (30, .goto (-26), 3), (33, .iload_n 2, 1), (34, .ireturn, 1)]
set_option maxRecDepth 20000 in
theorem DX6_seenBySet : Tab cX6_seenBySet tX6_seenBySet = true := by decide +kernel
def tX6_seersOf : List (Nat × Instr × Nat) := [(0, .iconst 0, 1), (1, .istore_n 2, 1), (2, .iconst 0, 1), (3, .istore_n 3, 1), (4, .iload_n 3, 1), (5, .bipush 9, 2), (7, .if_icmp .ge 24, 3), (10, .iload_n 2, 1), (11, .aload_n 0, 1), (12, .getfield 9, 3), (15, .iload_n 3, 1), (16, .iaload, 1), (17, .iload_n 1, 1), (18, .iushr, 1), (19, .iconst 1, 1), (20, .iand, 1), (21, .iload_n 3, 1), (22, .ishl, 1), (23, .ior, 1), (24, .istore_n 2, 1), (25, .iinc 3 1, 3), (28, .goto (-24), 3), (31, .iload_n 2, 1), (32, .ireturn, 1)]
set_option maxRecDepth 20000 in
theorem DX6_seersOf : Tab cX6_seersOf tX6_seersOf = true := by decide +kernel
def tX6_overlaps : List (Nat × Instr × Nat) := [(0, .iconst 0, 1), (1, .istore_n 1, 1), (2, .iconst 0, 1), (3, .istore_n 2, 1), (4, .iconst 0, 1), (5, .istore_n 3, 1), (6, .iload_n 3, 1), (7, .bipush 9, 2), (9, .if_icmp .ge 40, 3), (12, .aload_n 0, 1), (13, .getfield 22, 3), (16, .iload_n 3, 1), (17, .invokestatic 43, 3), (20, .ifCond .eq 23, 3), (23, .iload_n 2, 1), (24, .iload_n 1, 1), (25, .aload_n 0, 1), (26, .getfield 9, 3), (29, .iload_n 3, 1), (30, .iaload, 1), (31, .iand, 1), (32, .ior, 1), (33, .istore_n 2, 1), (34, .iload_n 1, 1), (35, .aload_n 0, 1), (36, .getfield 9, 3), (39, .iload_n 3, 1), (40, .iaload, 1), (41, .ior, 1), (42, .istore_n 1, 1), (43, .iinc 3 1, 3), (46, .goto (-40), 3), (49, .iload_n 2, 1), (50, .invokestatic 35, 3), (53, .ireturn, 1)]
set_option maxRecDepth 20000 in
theorem DX6_overlaps : Tab cX6_overlaps tX6_overlaps = true := by decide +kernel
def tX6_bestAmong : List (Nat × Instr × Nat) := [(0, .bipush (-4), 2), (2, .istore_n 3, 1), (3, .iconst 0, 1), (4, .istore 4, 2), (6, .iconst 0, 1), (7, .istore 5, 2), (9, .iload 5, 2), (11, .bipush 9, 2), (13, .if_icmp .ge 50, 3), (16, .iload_n 1, 1), (17, .iload 5, 2), (19, .invokestatic 43, 3), (22, .ifCond .eq 18, 3), (25, .aload_n 0, 1), (26, .getfield 9, 3), (29, .iload 5, 2), (31, .iaload, 1), (32, .iload_n 2, 1), (33, .iand, 1), (34, .invokestatic 35, 3), (37, .goto 4, 3), (40, .iconst 0, 1), (41, .istore 6, 2), (43, .iload 6, 2), (45, .iload 4, 2), (47, .if_icmp .le 10, 3), (50, .iload 5, 2), (52, .istore_n 3, 1), (53, .iload 6, 2), (55, .istore 4, 2), (57, .iinc 5 1, 3), (60, .goto (-51), 3), (63, .iload_n 3, 1), (64, .ireturn, 1)]
set_option maxRecDepth 20000 in
theorem DX6_bestAmong : Tab cX6_bestAmong tX6_bestAmong = true := by decide +kernel
def tX7_init : List (Nat × Instr × Nat) := [(0, .aload_n 0, 1), (1, .invokespecial 3, 3), (4, .aload_n 0, 1), (5, .bipush 70, 2), (7, .newarray .int, 2), (9, .putfield 9, 3), (12, .return_, 1)]
set_option maxRecDepth 20000 in
theorem DX7_init : Tab cX7_init tX7_init = true := by decide +kernel
def tX7_put : List (Nat × Instr × Nat) := [(0, .aload_n 0, 1), (1, .getfield 15, 3), (4, .ifCond .lt 12, 3), (7, .aload_n 0, 1), (8, .getfield 15, 3), (11, .bipush 70, 2), (13, .if_icmp .lt 6, 3), (16, .bipush (-2), 2), (18, .ireturn, 1), (19, .aload_n 0, 1), (20, .getfield 9, 3), (23, .aload_n 0, 1), (24, .getfield 15, 3), (27, .iload_n 1, 1), (28, .iastore, 1), (29, .aload_n 0, 1), (30, .dup, 1), (31, .getfield 15, 3), (34, .iconst 1, 1), (35, .iadd, 1), (36, .putfield 15, 3), (39, .aload_n 0, 1), (40, .getfield 15, 3), (43, .ireturn, 1)]
set_option maxRecDepth 20000 in
theorem DX7_put : Tab cX7_put tX7_put = true := by decide +kernel
def tX7_clear : List (Nat × Instr × Nat) := [(0, .aload_n 0, 1), (1, .iconst 0, 1), (2, .putfield 15, 3), (5, .return_, 1)]
set_option maxRecDepth 20000 in
theorem DX7_clear : Tab cX7_clear tX7_clear = true := by decide +kernel
def tX7_rewind : List (Nat × Instr × Nat) := [(0, .aload_n 0, 1), (1, .iconst 0, 1), (2, .putfield 19, 3), (5, .return_, 1)]
set_option maxRecDepth 20000 in
theorem DX7_rewind : Tab cX7_rewind tX7_rewind = true := by decide +kernel
def tX7_findFault : List (Nat × Instr × Nat) := [(0, .aload_n 0, 1), (1, .invokevirtual 22, 3), (4, .iconst 0, 1), (5, .istore_n 1, 1), (6, .iload_n 1, 1), (7, .bipush 70, 2), (9, .if_icmp .ge 43, 3), (12, .aload_n 0, 1), (13, .invokevirtual 25, 3), (16, .ifCond .eq 36, 3), (19, .aload_n 0, 1), (20, .getfield 19, 3), (23, .aload_n 0, 1), (24, .getfield 15, 3), (27, .if_icmp .lt 5, 3), (30, .iconst (-1), 1), (31, .ireturn, 1), (32, .aload_n 0, 1), (33, .bipush 59, 2), (35, .invokevirtual 29, 3), (38, .ifCond .ne 8, 3), (41, .aload_n 0, 1), (42, .getfield 19, 3), (45, .ireturn, 1), (46, .iinc 1 1, 3), (49, .goto (-43), 3), (52, .aload_n 0, 1), (53, .getfield 19, 3), (56, .ireturn, 1)]
set_option maxRecDepth 20000 in
theorem DX7_findFault : Tab cX7_findFault tX7_findFault = true := by decide +kernel
def tX7_takeCommand : List (Nat × Instr × Nat) := [(0, .aload_n 0, 1), (1, .aload_n 0, 1), (2, .invokevirtual 33, 3), (5, .putfield 37, 3), (8, .aload_n 0, 1), (9, .aload_n 0, 1), (10, .getfield 37, 3), (13, .invokevirtual 29, 3), (16, .ifCond .ne 5, 3), (19, .iconst 0, 1), (20, .ireturn, 1), (21, .aload_n 0, 1), (22, .getfield 37, 3), (25, .lookupswitch 241 #[(45, 227), (98, 179), (104, 233), (108, 227), (109, 227), (110, 227), (112, 83), (114, 131), (119, 239)], 83), (108, .aload_n 0, 1), (109, .iconst 2, 1), (110, .invokevirtual 40, 3), (113, .ifCond .eq 41, 3), (116, .aload_n 0, 1), (117, .bipush 60, 2), (119, .invokevirtual 29, 3), (122, .ifCond .eq 32, 3), (125, .aload_n 0, 1), (126, .iconst 2, 1), (127, .invokevirtual 43, 3), (130, .ifCond .eq 24, 3), (133, .aload_n 0, 1), (134, .bipush 62, 2), (136, .invokevirtual 29, 3), (139, .ifCond .eq 15, 3), (142, .aload_n 0, 1), (143, .iconst 2, 1), (144, .invokevirtual 46, 3), (147, .ifCond .eq 7, 3), (150, .iconst 1, 1), (151, .goto 4, 3), (154, .iconst 0, 1), (155, .ireturn, 1), (156, .aload_n 0, 1), (157, .iconst 1, 1), (158, .invokevirtual 40, 3), (161, .ifCond .eq 41, 3), (164, .aload_n 0, 1), (165, .bipush 60, 2), (167, .invokevirtual 29, 3), (170, .ifCond .eq 32, 3), (173, .aload_n 0, 1), (174, .iconst 2, 1), (175, .invokevirtual 43, 3), (178, .ifCond .eq 24, 3), (181, .aload_n 0, 1), (182, .bipush 62, 2), (184, .invokevirtual 29, 3), (187, .ifCond .eq 15, 3), (190, .aload_n 0, 1), (191, .iconst 2, 1), (192, .invokevirtual 46, 3), (195, .ifCond .eq 7, 3), (198, .iconst 1, 1), (199, .goto 4, 3), (202, .iconst 0, 1), (203, .ireturn, 1), (204, .aload_n 0, 1), (205, .iconst 1, 1), (206, .invokevirtual 40, 3), (209, .ifCond .eq 41, 3), (212, .aload_n 0, 1), (213, .bipush 33, 2), (215, .invokevirtual 29, 3), (218, .ifCond .eq 32, 3), (221, .aload_n 0, 1), (222, .iconst 2, 1), (223, .invokevirtual 43, 3), (226, .ifCond .eq 24, 3), (229, .aload_n 0, 1), (230, .bipush 43, 2), (232, .invokevirtual 29, 3), (235, .ifCond .eq 15, 3), (238, .aload_n 0, 1), (239, .iconst 1, 1), (240, .invokevirtual 46, 3), (243, .ifCond .eq 7, 3), (246, .iconst 1, 1), (247, .goto 4, 3), (250, .iconst 0, 1), (251, .ireturn, 1), (252, .aload_n 0, 1), (253, .iconst 1, 1), (254, .invokevirtual 40, 3), (257, .ireturn, 1), (258, .aload_n 0, 1), (259, .iconst 2, 1), (260, .invokevirtual 40, 3), (263, .ireturn, 1), (264, .iconst 1, 1), (265, .ireturn, 1), (266, .aload_n 0, 1), (267, .dup, 1), (268, .getfield 19, 3), (271, .iconst 1, 1), (272, .isub, 1), (273, .putfield 19, 3), (276, .iconst 0, 1), (277, .ireturn, 1)]
set_option maxRecDepth 20000 in
theorem DX7_takeCommand : Tab cX7_takeCommand tX7_takeCommand = true := by decide +kernel
def tX7_skip : List (Nat × Instr × Nat) := [(0, .aload_n 0, 1), (1, .invokevirtual 33, 3), (4, .iload_n 1, 1), (5, .if_icmp .ne 8, 3), (8, .iload_n 1, 1), (9, .iconst (-1), 1), (10, .if_icmp .ne 5, 3), (13, .iconst 0, 1), (14, .ireturn, 1), (15, .aload_n 0, 1), (16, .dup, 1), (17, .getfield 19, 3), (20, .iconst 1, 1), (21, .iadd, 1), (22, .putfield 19, 3), (25, .iconst 1, 1), (26, .ireturn, 1)]
set_option maxRecDepth 20000 in
theorem DX7_skip : Tab cX7_skip tX7_skip = true := by decide +kernel
def tX7_takeFirst : List (Nat × Instr × Nat) := [(0, .aload_n 0, 1), (1, .aload_n 0, 1), (2, .iload_n 1, 1), (3, .invokevirtual 49, 3), (6, .putfield 53, 3), (9, .aload_n 0, 1), (10, .getfield 53, 3), (13, .iconst (-1), 1), (14, .if_icmp .eq 7, 3), (17, .iconst 1, 1), (18, .goto 4, 3), (21, .iconst 0, 1), (22, .ireturn, 1)]
set_option maxRecDepth 20000 in
theorem DX7_takeFirst : Tab cX7_takeFirst tX7_takeFirst = true := by decide +kernel
def tX7_takeSecond : List (Nat × Instr × Nat) := [(0, .aload_n 0, 1), (1, .aload_n 0, 1), (2, .iload_n 1, 1), (3, .invokevirtual 49, 3), (6, .putfield 56, 3), (9, .aload_n 0, 1), (10, .getfield 56, 3), (13, .iconst (-1), 1), (14, .if_icmp .eq 7, 3), (17, .iconst 1, 1), (18, .goto 4, 3), (21, .iconst 0, 1), (22, .ireturn, 1)]
set_option maxRecDepth 20000 in
theorem DX7_takeSecond : Tab cX7_takeSecond tX7_takeSecond = true := by decide +kernel
def tX7_takeThird : List (Nat × Instr × Nat) := [(0, .aload_n 0, 1), (1, .aload_n 0, 1), (2, .iload_n 1, 1), (3, .invokevirtual 49, 3), (6, .putfield 59, 3), (9, .aload_n 0, 1), (10, .getfield 59, 3), (13, .iconst (-1), 1), (14, .if_icmp .eq 7, 3), (17, .iconst 1, 1), (18, .goto 4, 3), (21, .iconst 0, 1), (22, .ireturn, 1)]
set_option maxRecDepth 20000 in
theorem DX7_takeThird : Tab cX7_takeThird tX7_takeThird = true := by decide +kernel
def tX7_takeNumber : List (Nat × Instr × Nat) := [(0, .iconst (-1), 1), (1, .istore_n 2, 1), (2, .iconst 0, 1), (3, .istore_n 3, 1), (4, .iload_n 3, 1), (5, .iload_n 1, 1), (6, .if_icmp .ge 61, 3), (9, .aload_n 0, 1), (10, .invokevirtual 33, 3), (13, .istore 4, 2), (15, .iload 4, 2), (17, .bipush 48, 2), (19, .if_icmp .lt 48, 3), (22, .iload 4, 2), (24, .bipush 57, 2), (26, .if_icmp .le 6, 3), (29, .goto 38, 3), (32, .iload_n 3, 1), (33, .ifCond .ne 7, 3), (36, .iconst 0, 1), (37, .goto 7, 3), (40, .bipush 10, 2), (42, .iload_n 2, 1), (43, .imul, 1), (44, .iload 4, 2), (46, .iadd, 1), (47, .bipush 48, 2), (49, .isub, 1), (50, .istore_n 2, 1), (51, .aload_n 0, 1), (52, .dup, 1), (53, .getfield 19, 3), (56, .iconst 1, 1), (57, .iadd, 1), (58, .putfield 19, 3), (61, .iinc 3 1, 3), (64, .goto (-60), 3), (67, .iload_n 2, 1), (68, .ireturn, 1)]
set_option maxRecDepth 20000 in
theorem DX7_takeNumber : Tab cX7_takeNumber tX7_takeNumber = true := by decide +kernel
def tX7_codeHere : List (Nat × Instr × Nat) := [(0, .aload_n 0, 1), (1, .getfield 19, 3), (4, .ifCond .lt 35, 3), (7, .aload_n 0, 1), (8, .getfield 19, 3), (11, .aload_n 0, 1), (12, .getfield 15, 3), (15, .if_icmp .ge 24, 3), (18, .aload_n 0, 1), (19, .getfield 19, 3), (22, .bipush 70, 2), (24, .if_icmp .ge 15, 3), (27, .aload_n 0, 1), (28, .getfield 9, 3), (31, .aload_n 0, 1), (32, .getfield 19, 3), (35, .iaload, 1), (36, .goto 4, 3), (39, .iconst (-1), 1), (40, .ireturn, 1)]
set_option maxRecDepth 20000 in
theorem DX7_codeHere : Tab cX7_codeHere tX7_codeHere = true := by decide +kernel
def tX8_init : List (Nat × Instr × Nat) := [(0, .aload_n 0, 1), (1, .invokespecial 3, 3), (4, .aload_n 0, 1), (5, .bipush 9, 2), (7, .newarray .int, 2), (9, .putfield 9, 3), (12, .aload_n 0, 1), (13, .bipush 9, 2), (15, .newarray .int, 2), (17, .putfield 15, 3), (20, .aload_n 0, 1), (21, .bipush 9, 2), (23, .newarray .int, 2), (25, .putfield 18, 3), (28, .aload_n 0, 1), (29, .bipush 9, 2), (31, .newarray .int, 2), (33, .putfield 21, 3), (36, .aload_n 0, 1), (37, .bipush 9, 2), (39, .newarray .int, 2), (41, .putfield 24, 3), (44, .aload_n 0, 1), (45, .bipush 9, 2), (47, .newarray .int, 2), (49, .putfield 27, 3), (52, .iconst 0, 1), (53, .istore_n 1, 1), (54, .iload_n 1, 1), (55, .bipush 9, 2), (57, .if_icmp .ge 14, 3), (60, .aload_n 0, 1), (61, .iload_n 1, 1), (62, .invokevirtual 30, 3), (65, .iinc 1 1, 3), (68, .goto (-14), 3), (71, .return_, 1)]
set_option maxRecDepth 20000 in
theorem DX8_init : Tab cX8_init tX8_init = true := by decide +kernel
def tX8_copyFrom : List (Nat × Instr × Nat) := [(0, .iconst 0, 1), (1, .istore_n 2, 1), (2, .iload_n 2, 1), (3, .bipush 9, 2), (5, .if_icmp .ge 16, 3), (8, .aload_n 0, 1), (9, .aload_n 1, 1), (10, .iload_n 2, 1), (11, .iload_n 2, 1), (12, .invokevirtual 34, 3), (15, .iinc 2 1, 3), (18, .goto (-16), 3), (21, .aload_n 0, 1), (22, .aload_n 1, 1), (23, .getfield 38, 3), (26, .putfield 38, 3), (29, .aload_n 0, 1), (30, .aload_n 1, 1), (31, .getfield 42, 3), (34, .putfield 42, 3), (37, .aload_n 0, 1), (38, .aload_n 1, 1), (39, .getfield 45, 3), (42, .putfield 45, 3), (45, .aload_n 0, 1), (46, .aload_n 1, 1), (47, .getfield 48, 3), (50, .putfield 48, 3), (53, .aload_n 0, 1), (54, .aload_n 1, 1), (55, .getfield 51, 3), (58, .putfield 51, 3), (61, .return_, 1)]
set_option maxRecDepth 20000 in
theorem DX8_copyFrom : Tab cX8_copyFrom tX8_copyFrom = true := by decide +kernel
def tX8_isPost : List (Nat × Instr × Nat) := [(0, .iload_n 1, 1), (1, .ifCond .lt 23, 3), (4, .iload_n 1, 1), (5, .bipush 9, 2), (7, .if_icmp .ge 17, 3), (10, .aload_n 0, 1), (11, .getfield 9, 3), (14, .iload_n 1, 1), (15, .iaload, 1), (16, .iconst (-1), 1), (17, .if_icmp .eq 7, 3), (20, .iconst 1, 1), (21, .goto 4, 3), (24, .iconst 0, 1), (25, .ireturn, 1)]
set_option maxRecDepth 20000 in
theorem DX8_isPost : Tab cX8_isPost tX8_isPost = true := by decide +kernel
def tX8_postOn : List (Nat × Instr × Nat) := [(0, .iconst 0, 1), (1, .istore_n 2, 1), (2, .iload_n 2, 1), (3, .bipush 9, 2), (5, .if_icmp .ge 21, 3), (8, .aload_n 0, 1), (9, .getfield 9, 3), (12, .iload_n 2, 1), (13, .iaload, 1), (14, .iload_n 1, 1), (15, .if_icmp .ne 5, 3), (18, .iload_n 2, 1), (19, .ireturn, 1), (20, .iinc 2 1, 3), (23, .goto (-21), 3), (26, .iconst (-1), 1), (27, .ireturn, 1)]
set_option maxRecDepth 20000 in
theorem DX8_postOn : Tab cX8_postOn tX8_postOn = true := by decide +kernel
def tX8_add : List (Nat × Instr × Nat) := [(0, .aload_n 0, 1), (1, .iconst (-1), 1), (2, .invokevirtual 54, 3), (5, .istore 4, 2), (7, .iload 4, 2), (9, .iconst (-1), 1), (10, .if_icmp .eq 47, 3), (13, .aload_n 0, 1), (14, .getfield 9, 3), (17, .iload 4, 2), (19, .iload_n 1, 1), (20, .iastore, 1), (21, .aload_n 0, 1), (22, .getfield 15, 3), (25, .iload 4, 2), (27, .iload_n 2, 1), (28, .iastore, 1), (29, .aload_n 0, 1), (30, .getfield 18, 3), (33, .iload 4, 2), (35, .iload_n 3, 1), (36, .iastore, 1), (37, .aload_n 0, 1), (38, .dup, 1), (39, .getfield 38, 3), (42, .iconst 1, 1), (43, .iadd, 1), (44, .putfield 38, 3), (47, .aload_n 0, 1), (48, .dup, 1), (49, .getfield 45, 3), (52, .iconst 1, 1), (53, .iadd, 1), (54, .putfield 45, 3), (57, .iload 4, 2), (59, .ireturn, 1)]
set_option maxRecDepth 20000 in
theorem DX8_add : Tab cX8_add tX8_add = true := by decide +kernel
def tX8_remove : List (Nat × Instr × Nat) := [(0, .iload_n 1, 1), (1, .istore_n 2, 1), (2, .iload_n 2, 1), (3, .ifCond .lt 24, 3), (6, .iload_n 2, 1), (7, .bipush 8, 2), (9, .if_icmp .ge 18, 3), (12, .aload_n 0, 1), (13, .aload_n 0, 1), (14, .iload_n 2, 1), (15, .iconst 1, 1), (16, .iadd, 1), (17, .iload_n 2, 1), (18, .invokevirtual 34, 3), (21, .iinc 2 1, 3), (24, .goto (-22), 3), (27, .aload_n 0, 1), (28, .bipush 8, 2), (30, .invokevirtual 30, 3), (33, .aload_n 0, 1), (34, .dup, 1), (35, .getfield 38, 3), (38, .iconst 1, 1), (39, .isub, 1), (40, .putfield 38, 3), (43, .aload_n 0, 1), (44, .dup, 1), (45, .getfield 48, 3), (48, .iconst 1, 1), (49, .iadd, 1), (50, .putfield 48, 3), (53, .return_, 1)]
set_option maxRecDepth 20000 in
theorem DX8_remove : Tab cX8_remove tX8_remove = true := by decide +kernel
def tX8_manJust : List (Nat × Instr × Nat) := [(0, .iconst 0, 1), (1, .istore_n 2, 1), (2, .iload_n 2, 1), (3, .bipush 9, 2), (5, .if_icmp .ge 20, 3), (8, .aload_n 0, 1), (9, .getfield 27, 3), (12, .iload_n 2, 1), (13, .iload_n 1, 1), (14, .iload_n 2, 1), (15, .iushr, 1), (16, .iconst 1, 1), (17, .iand, 1), (18, .iastore, 1), (19, .iinc 2 1, 3), (22, .goto (-20), 3), (25, .aload_n 0, 1), (26, .dup, 1), (27, .getfield 51, 3), (30, .iconst 1, 1), (31, .iadd, 1), (32, .putfield 51, 3), (35, .return_, 1)]
set_option maxRecDepth 20000 in
theorem DX8_manJust : Tab cX8_manJust tX8_manJust = true := by decide +kernel
def tX8_numberOf : List (Nat × Instr × Nat) := [(0, .aload_n 0, 1), (1, .iload_n 1, 1), (2, .invokevirtual 58, 3), (5, .ifCond .ne 5, 3), (8, .iconst (-1), 1), (9, .ireturn, 1), (10, .iload_n 2, 1), (11, .tableswitch 68 0 4 #[33, 40, 47, 54, 61], 33), (44, .aload_n 0, 1), (45, .getfield 9, 3), (48, .iload_n 1, 1), (49, .iaload, 1), (50, .ireturn, 1), (51, .aload_n 0, 1), (52, .getfield 15, 3), (55, .iload_n 1, 1), (56, .iaload, 1), (57, .ireturn, 1), (58, .aload_n 0, 1), (59, .getfield 18, 3), (62, .iload_n 1, 1), (63, .iaload, 1), (64, .ireturn, 1), (65, .aload_n 0, 1), (66, .getfield 21, 3), (69, .iload_n 1, 1), (70, .iaload, 1), (71, .ireturn, 1), (72, .aload_n 0, 1), (73, .getfield 24, 3), (76, .iload_n 1, 1), (77, .iaload, 1), (78, .ireturn, 1), (79, .aload_n 0, 1), (80, .getfield 27, 3), (83, .iload_n 1, 1), (84, .iaload, 1), (85, .ireturn, 1)]
set_option maxRecDepth 20000 in
theorem DX8_numberOf : Tab cX8_numberOf tX8_numberOf = true := by decide +kernel
def tX8_accountOf : List (Nat × Instr × Nat) := [(0, .iload_n 1, 1), (1, .tableswitch 42 7 9 #[27, 32, 37], 27), (28, .aload_n 0, 1), (29, .getfield 42, 3), (32, .ireturn, 1), (33, .aload_n 0, 1), (34, .getfield 45, 3), (37, .ireturn, 1), (38, .aload_n 0, 1), (39, .getfield 48, 3), (42, .ireturn, 1), (43, .aload_n 0, 1), (44, .getfield 51, 3), (47, .ireturn, 1)]
set_option maxRecDepth 20000 in
theorem DX8_accountOf : Tab cX8_accountOf tX8_accountOf = true := by decide +kernel
def tX8_sightOf : List (Nat × Instr × Nat) := [(0, .aload_n 0, 1), (1, .iload_n 1, 1), (2, .invokevirtual 58, 3), (5, .ifCond .ne 5, 3), (8, .iconst 0, 1), (9, .ireturn, 1), (10, .iload_n 2, 1), (11, .invokestatic 62, 3), (14, .istore_n 3, 1), (15, .iconst 0, 1), (16, .aload_n 0, 1), (17, .getfield 15, 3), (20, .iload_n 1, 1), (21, .iaload, 1), (22, .iload_n 3, 1), (23, .isub, 1), (24, .invokestatic 65, 3), (27, .istore 4, 2), (29, .iconst 0, 1), (30, .aload_n 0, 1), (31, .getfield 18, 3), (34, .iload_n 1, 1), (35, .iaload, 1), (36, .iload_n 3, 1), (37, .isub, 1), (38, .invokestatic 65, 3), (41, .istore 5, 2), (43, .aload_n 0, 1), (44, .getfield 9, 3), (47, .iload_n 1, 1), (48, .iaload, 1), (49, .iload 4, 2), (51, .isub, 1), (52, .istore 6, 2), (54, .iload 6, 2), (56, .ifCond .ge 11, 3), (59, .iload 6, 2), (61, .bipush 24, 2), (63, .iadd, 1), (64, .goto 5, 3), (67, .iload 6, 2), (69, .iload 4, 2), (71, .iconst 1, 1), (72, .iadd, 1), (73, .iload 5, 2), (75, .iadd, 1), (76, .invokestatic 71, 3), (79, .istore 7, 2), (81, .aload_n 0, 1), (82, .getfield 24, 3), (85, .iload_n 1, 1), (86, .iaload, 1), (87, .ifCond .ne 8, 3), (90, .iload 7, 2), (92, .goto 23, 3), (95, .iload 7, 2), (97, .aload_n 0, 1), (98, .getfield 21, 3), (101, .iload_n 1, 1), (102, .iaload, 1), (103, .aload_n 0, 1), (104, .getfield 24, 3), (107, .iload_n 1, 1), (108, .iaload, 1), (109, .invokestatic 71, 3), (112, .iconst (-1), 1), (113, .ixor, 1), (114, .iand, 1), (115, .ireturn, 1)]
set_option maxRecDepth 20000 in
theorem DX8_sightOf : Tab cX8_sightOf tX8_sightOf = true := by decide +kernel
def tX8_lostByLight : List (Nat × Instr × Nat) := [(0, .iload_n 0, 1), (1, .bipush 6, 2), (3, .if_icmp .ge 5, 3), (6, .iconst 0, 1), (7, .ireturn, 1), (8, .iload_n 0, 1), (9, .bipush 8, 2), (11, .if_icmp .ge 5, 3), (14, .iconst 1, 1), (15, .ireturn, 1), (16, .iload_n 0, 1), (17, .bipush 10, 2), (19, .if_icmp .ge 7, 3), (22, .iconst 2, 1), (23, .goto 4, 3), (26, .iconst 3, 1), (27, .ireturn, 1)]
set_option maxRecDepth 20000 in
theorem DX8_lostByLight : Tab cX8_lostByLight tX8_lostByLight = true := by decide +kernel
def tX8_copyPlace : List (Nat × Instr × Nat) := [(0, .aload_n 0, 1), (1, .getfield 9, 3), (4, .iload_n 3, 1), (5, .aload_n 1, 1), (6, .getfield 9, 3), (9, .iload_n 2, 1), (10, .iaload, 1), (11, .iastore, 1), (12, .aload_n 0, 1), (13, .getfield 15, 3), (16, .iload_n 3, 1), (17, .aload_n 1, 1), (18, .getfield 15, 3), (21, .iload_n 2, 1), (22, .iaload, 1), (23, .iastore, 1), (24, .aload_n 0, 1), (25, .getfield 18, 3), (28, .iload_n 3, 1), (29, .aload_n 1, 1), (30, .getfield 18, 3), (33, .iload_n 2, 1), (34, .iaload, 1), (35, .iastore, 1), (36, .aload_n 0, 1), (37, .getfield 21, 3), (40, .iload_n 3, 1), (41, .aload_n 1, 1), (42, .getfield 21, 3), (45, .iload_n 2, 1), (46, .iaload, 1), (47, .iastore, 1), (48, .aload_n 0, 1), (49, .getfield 24, 3), (52, .iload_n 3, 1), (53, .aload_n 1, 1), (54, .getfield 24, 3), (57, .iload_n 2, 1), (58, .iaload, 1), (59, .iastore, 1), (60, .aload_n 0, 1), (61, .getfield 27, 3), (64, .iload_n 3, 1), (65, .aload_n 1, 1), (66, .getfield 27, 3), (69, .iload_n 2, 1), (70, .iaload, 1), (71, .iastore, 1), (72, .return_, 1)]
set_option maxRecDepth 20000 in
theorem DX8_copyPlace : Tab cX8_copyPlace tX8_copyPlace = true := by decide +kernel
def tX8_empty : List (Nat × Instr × Nat) := [(0, .aload_n 0, 1), (1, .getfield 9, 3), (4, .iload_n 1, 1), (5, .iconst (-1), 1), (6, .iastore, 1), (7, .aload_n 0, 1), (8, .getfield 15, 3), (11, .iload_n 1, 1), (12, .iconst 0, 1), (13, .iastore, 1), (14, .aload_n 0, 1), (15, .getfield 18, 3), (18, .iload_n 1, 1), (19, .iconst 0, 1), (20, .iastore, 1), (21, .aload_n 0, 1), (22, .getfield 21, 3), (25, .iload_n 1, 1), (26, .bipush (-4), 2), (28, .iastore, 1), (29, .aload_n 0, 1), (30, .getfield 24, 3), (33, .iload_n 1, 1), (34, .iconst 0, 1), (35, .iastore, 1), (36, .aload_n 0, 1), (37, .getfield 27, 3), (40, .iload_n 1, 1), (41, .iconst 0, 1), (42, .iastore, 1), (43, .return_, 1)]
set_option maxRecDepth 20000 in
theorem DX8_empty : Tab cX8_empty tX8_empty = true := by decide +kernel
def tX9_init : List (Nat × Instr × Nat) := [(0, .aload_n 0, 1), (1, .invokespecial 1, 3), (4, .aload_n 0, 1), (5, .new 7, 3), (8, .dup, 1), (9, .invokespecial 9, 3), (12, .putfield 10, 3), (15, .aload_n 0, 1), (16, .new 7, 3), (19, .dup, 1), (20, .invokespecial 9, 3), (23, .putfield 16, 3), (26, .aload_n 0, 1), (27, .new 7, 3), (30, .dup, 1), (31, .invokespecial 9, 3), (34, .putfield 19, 3), (37, .aload_n 0, 1), (38, .new 22, 3), (41, .dup, 1), (42, .invokespecial 24, 3), (45, .putfield 25, 3), (48, .aload_n 0, 1), (49, .new 29, 3), (52, .dup, 1), (53, .invokespecial 31, 3), (56, .putfield 32, 3), (59, .aload_n 0, 1), (60, .new 36, 3), (63, .dup, 1), (64, .invokespecial 38, 3), (67, .putfield 39, 3), (70, .aload_n 0, 1), (71, .new 43, 3), (74, .dup, 1), (75, .invokespecial 45, 3), (78, .putfield 46, 3), (81, .aload_n 0, 1), (82, .new 50, 3), (85, .dup, 1), (86, .invokespecial 52, 3), (89, .putfield 53, 3), (92, .aload_n 0, 1), (93, .new 57, 3), (96, .dup, 1), (97, .invokespecial 59, 3), (100, .putfield 60, 3), (103, .aload_n 0, 1), (104, .new 64, 3), (107, .dup, 1), (108, .invokespecial 66, 3), (111, .putfield 67, 3), (114, .aload_n 0, 1), (115, .new 71, 3), (118, .dup, 1), (119, .invokespecial 73, 3), (122, .putfield 74, 3), (125, .aload_n 0, 1), (126, .iconst 0, 1), (127, .putfield 78, 3), (130, .aload_n 0, 1), (131, .bipush (-4), 2), (133, .putfield 82, 3), (136, .return_, 1)]
set_option maxRecDepth 20000 in
theorem DX9_init : Tab cX9_init tX9_init = true := by decide +kernel
def tX9_post : List (Nat × Instr × Nat) := [(0, .aload_n 0, 1), (1, .getfield 16, 3), (4, .aload_n 0, 1), (5, .getfield 10, 3), (8, .invokevirtual 86, 3), (11, .aload_n 0, 1), (12, .aload_n 0, 1), (13, .iload_n 1, 1), (14, .iload_n 2, 1), (15, .iload_n 3, 1), (16, .invokevirtual 90, 3), (19, .invokevirtual 94, 3), (22, .ireturn, 1)]
set_option maxRecDepth 20000 in
theorem DX9_post : Tab cX9_post tX9_post = true := by decide +kernel
def tX9_tear : List (Nat × Instr × Nat) := [(0, .aload_n 0, 1), (1, .getfield 16, 3), (4, .aload_n 0, 1), (5, .getfield 10, 3), (8, .invokevirtual 86, 3), (11, .aload_n 0, 1), (12, .aload_n 0, 1), (13, .iload_n 1, 1), (14, .invokevirtual 98, 3), (17, .invokevirtual 94, 3), (20, .ireturn, 1)]
set_option maxRecDepth 20000 in
theorem DX9_tear : Tab cX9_tear tX9_tear = true := by decide +kernel
def tX9_reach : List (Nat × Instr × Nat) := [(0, .aload_n 0, 1), (1, .getfield 16, 3), (4, .aload_n 0, 1), (5, .getfield 10, 3), (8, .invokevirtual 86, 3), (11, .aload_n 0, 1), (12, .aload_n 0, 1), (13, .iload_n 1, 1), (14, .iload_n 2, 1), (15, .iload_n 3, 1), (16, .invokevirtual 101, 3), (19, .invokevirtual 94, 3), (22, .ireturn, 1)]
set_option maxRecDepth 20000 in
theorem DX9_reach : Tab cX9_reach tX9_reach = true := by decide +kernel
def tX9_blind : List (Nat × Instr × Nat) := [(0, .aload_n 0, 1), (1, .getfield 16, 3), (4, .aload_n 0, 1), (5, .getfield 10, 3), (8, .invokevirtual 86, 3), (11, .aload_n 0, 1), (12, .aload_n 0, 1), (13, .iload_n 1, 1), (14, .iload_n 2, 1), (15, .iload_n 3, 1), (16, .invokevirtual 104, 3), (19, .invokevirtual 94, 3), (22, .istore 4, 2), (24, .iload 4, 2), (26, .ifCond .ge 8, 3), (29, .iload 4, 2), (31, .goto 8, 3), (34, .aload_n 0, 1), (35, .iload_n 1, 1), (36, .invokevirtual 107, 3), (39, .ireturn, 1)]
set_option maxRecDepth 20000 in
theorem DX9_blind : Tab cX9_blind tX9_blind = true := by decide +kernel
def tX9_see : List (Nat × Instr × Nat) := [(0, .aload_n 0, 1), (1, .getfield 16, 3), (4, .aload_n 0, 1), (5, .getfield 10, 3), (8, .invokevirtual 86, 3), (11, .aload_n 0, 1), (12, .aload_n 0, 1), (13, .iload_n 1, 1), (14, .invokevirtual 110, 3), (17, .invokevirtual 94, 3), (20, .istore_n 2, 1), (21, .iload_n 2, 1), (22, .ifCond .ge 7, 3), (25, .iload_n 2, 1), (26, .goto 8, 3), (29, .aload_n 0, 1), (30, .iload_n 1, 1), (31, .invokevirtual 107, 3), (34, .ireturn, 1)]
set_option maxRecDepth 20000 in
theorem DX9_see : Tab cX9_see tX9_see = true := by decide +kernel
def tX9_man : List (Nat × Instr × Nat) := [(0, .aload_n 0, 1), (1, .getfield 16, 3), (4, .aload_n 0, 1), (5, .getfield 10, 3), (8, .invokevirtual 86, 3), (11, .aload_n 0, 1), (12, .aload_n 0, 1), (13, .iload_n 1, 1), (14, .iload_n 2, 1), (15, .invokevirtual 113, 3), (18, .invokevirtual 94, 3), (21, .istore_n 3, 1), (22, .iload_n 3, 1), (23, .ifCond .ge 7, 3), (26, .iload_n 3, 1), (27, .goto 7, 3), (30, .aload_n 0, 1), (31, .invokevirtual 117, 3), (34, .ireturn, 1)]
set_option maxRecDepth 20000 in
theorem DX9_man : Tab cX9_man tX9_man = true := by decide +kernel
def tX9_hour : List (Nat × Instr × Nat) := [(0, .aload_n 0, 1), (1, .getfield 16, 3), (4, .aload_n 0, 1), (5, .getfield 10, 3), (8, .invokevirtual 86, 3), (11, .aload_n 0, 1), (12, .aload_n 0, 1), (13, .iload_n 1, 1), (14, .invokevirtual 121, 3), (17, .invokevirtual 94, 3), (20, .ireturn, 1)]
set_option maxRecDepth 20000 in
theorem DX9_hour : Tab cX9_hour tX9_hour = true := by decide +kernel
def tX9_watch : List (Nat × Instr × Nat) := [(0, .aload_n 0, 1), (1, .getfield 16, 3), (4, .aload_n 0, 1), (5, .getfield 10, 3), (8, .invokevirtual 86, 3), (11, .aload_n 0, 1), (12, .aload_n 0, 1), (13, .invokevirtual 124, 3), (16, .invokevirtual 94, 3), (19, .ireturn, 1)]
set_option maxRecDepth 20000 in
theorem DX9_watch : Tab cX9_watch tX9_watch = true := by decide +kernel
def tX9_postOf : List (Nat × Instr × Nat) := [(0, .aload_n 0, 1), (1, .getfield 10, 3), (4, .iload_n 1, 1), (5, .invokevirtual 127, 3), (8, .ifCond .ne 5, 3), (11, .iconst (-1), 1), (12, .ireturn, 1), (13, .iload_n 2, 1), (14, .ifCond .lt 9, 3), (17, .iload_n 2, 1), (18, .bipush 8, 2), (20, .if_icmp .le 6, 3), (23, .bipush (-2), 2), (25, .ireturn, 1), (26, .iload_n 2, 1), (27, .iconst 5, 1), (28, .if_icmp .gt 13, 3), (31, .aload_n 0, 1), (32, .getfield 10, 3), (35, .iload_n 1, 1), (36, .iload_n 2, 1), (37, .invokevirtual 131, 3), (40, .ireturn, 1), (41, .aload_n 0, 1), (42, .getfield 32, 3), (45, .aload_n 0, 1), (46, .getfield 10, 3), (49, .aload_n 0, 1), (50, .getfield 10, 3), (53, .getfield 134, 3), (56, .invokevirtual 137, 3), (59, .iload_n 2, 1), (60, .bipush 6, 2), (62, .if_icmp .ne 12, 3), (65, .aload_n 0, 1), (66, .getfield 32, 3), (69, .iload_n 1, 1), (70, .invokevirtual 141, 3), (73, .ireturn, 1), (74, .iload_n 2, 1), (75, .bipush 7, 2), (77, .if_icmp .ne 12, 3), (80, .aload_n 0, 1), (81, .getfield 32, 3), (84, .iload_n 1, 1), (85, .invokevirtual 144, 3), (88, .ireturn, 1), (89, .aload_n 0, 1), (90, .getfield 39, 3), (93, .aload_n 0, 1), (94, .getfield 32, 3), (97, .invokevirtual 147, 3), (100, .aload_n 0, 1), (101, .getfield 39, 3), (104, .getfield 151, 3), (107, .iload_n 1, 1), (108, .iushr, 1), (109, .iconst 1, 1), (110, .iand, 1), (111, .ireturn, 1)]
set_option maxRecDepth 20000 in
theorem DX9_postOf : Tab cX9_postOf tX9_postOf = true := by decide +kernel
def tX9_sees : List (Nat × Instr × Nat) := [(0, .aload_n 0, 1), (1, .getfield 10, 3), (4, .iload_n 1, 1), (5, .invokevirtual 127, 3), (8, .ifCond .eq 10, 3), (11, .iload_n 2, 1), (12, .invokestatic 154, 3), (15, .ifCond .ne 5, 3), (18, .iconst (-1), 1), (19, .ireturn, 1), (20, .aload_n 0, 1), (21, .getfield 32, 3), (24, .aload_n 0, 1), (25, .getfield 10, 3), (28, .aload_n 0, 1), (29, .getfield 10, 3), (32, .getfield 134, 3), (35, .invokevirtual 137, 3), (38, .aload_n 0, 1), (39, .getfield 32, 3), (42, .iload_n 1, 1), (43, .invokevirtual 157, 3), (46, .iload_n 2, 1), (47, .iushr, 1), (48, .iconst 1, 1), (49, .iand, 1), (50, .ireturn, 1)]
set_option maxRecDepth 20000 in
theorem DX9_sees : Tab cX9_sees tX9_sees = true := by decide +kernel
def tX9_watched : List (Nat × Instr × Nat) := [(0, .iload_n 1, 1), (1, .invokestatic 154, 3), (4, .ifCond .ne 5, 3), (7, .iconst (-1), 1), (8, .ireturn, 1), (9, .aload_n 0, 1), (10, .getfield 32, 3), (13, .aload_n 0, 1), (14, .getfield 10, 3), (17, .aload_n 0, 1), (18, .getfield 10, 3), (21, .getfield 134, 3), (24, .invokevirtual 137, 3), (27, .aload_n 0, 1), (28, .getfield 32, 3), (31, .iload_n 1, 1), (32, .invokevirtual 160, 3), (35, .aload_n 0, 1), (36, .getfield 32, 3), (39, .getfield 163, 3), (42, .iand, 1), (43, .invokestatic 166, 3), (46, .ireturn, 1)]
set_option maxRecDepth 20000 in
theorem DX9_watched : Tab cX9_watched tX9_watched = true := by decide +kernel
def tX9_seenBy : List (Nat × Instr × Nat) := [(0, .iload_n 1, 1), (1, .invokestatic 154, 3), (4, .ifCond .ne 5, 3), (7, .iconst (-1), 1), (8, .ireturn, 1), (9, .aload_n 0, 1), (10, .getfield 32, 3), (13, .aload_n 0, 1), (14, .getfield 10, 3), (17, .aload_n 0, 1), (18, .getfield 10, 3), (21, .getfield 134, 3), (24, .invokevirtual 137, 3), (27, .aload_n 0, 1), (28, .getfield 32, 3), (31, .iload_n 1, 1), (32, .invokevirtual 160, 3), (35, .ireturn, 1)]
set_option maxRecDepth 20000 in
theorem DX9_seenBy : Tab cX9_seenBy tX9_seenBy = true := by decide +kernel
def tX9_gapOf : List (Nat × Instr × Nat) := [(0, .aload_n 0, 1), (1, .getfield 32, 3), (4, .aload_n 0, 1), (5, .getfield 10, 3), (8, .aload_n 0, 1), (9, .getfield 10, 3), (12, .getfield 134, 3), (15, .invokevirtual 137, 3), (18, .aload_n 0, 1), (19, .getfield 46, 3), (22, .aload_n 0, 1), (23, .getfield 32, 3), (26, .aload_n 0, 1), (27, .getfield 32, 3), (30, .getfield 163, 3), (33, .invokevirtual 171, 3), (36, .invokevirtual 174, 3), (39, .aload_n 0, 1), (40, .getfield 46, 3), (43, .iload_n 1, 1), (44, .invokevirtual 178, 3), (47, .ifCond .ne 5, 3), (50, .iconst (-1), 1), (51, .ireturn, 1), (52, .iload_n 2, 1), (53, .tableswitch 75 0 2 #[27, 36, 45], 27), (80, .aload_n 0, 1), (81, .getfield 46, 3), (84, .iload_n 1, 1), (85, .invokevirtual 181, 3), (88, .ireturn, 1), (89, .aload_n 0, 1), (90, .getfield 46, 3), (93, .iload_n 1, 1), (94, .invokevirtual 184, 3), (97, .ireturn, 1), (98, .aload_n 0, 1), (99, .getfield 32, 3), (102, .sipush 511, 3), (105, .aload_n 0, 1), (106, .getfield 46, 3), (109, .iload_n 1, 1), (110, .invokevirtual 181, 3), (113, .aload_n 0, 1), (114, .getfield 46, 3), (117, .iload_n 1, 1), (118, .invokevirtual 184, 3), (121, .invokestatic 187, 3), (124, .invokevirtual 190, 3), (127, .ireturn, 1), (128, .bipush (-2), 2), (130, .ireturn, 1)]
set_option maxRecDepth 20000 in
theorem DX9_gapOf : Tab cX9_gapOf tX9_gapOf = true := by decide +kernel
def tX9_fewest : List (Nat × Instr × Nat) := [(0, .aload_n 0, 1), (1, .getfield 32, 3), (4, .aload_n 0, 1), (5, .getfield 10, 3), (8, .aload_n 0, 1), (9, .getfield 10, 3), (12, .getfield 134, 3), (15, .invokevirtual 137, 3), (18, .aload_n 0, 1), (19, .getfield 39, 3), (22, .aload_n 0, 1), (23, .getfield 32, 3), (26, .invokevirtual 147, 3), (29, .aload_n 0, 1), (30, .getfield 39, 3), (33, .getfield 193, 3), (36, .ireturn, 1)]
set_option maxRecDepth 20000 in
theorem DX9_fewest : Tab cX9_fewest tX9_fewest = true := by decide +kernel
def tX9_fewestAgain : List (Nat × Instr × Nat) := [(0, .aload_n 0, 1), (1, .getfield 32, 3), (4, .aload_n 0, 1), (5, .getfield 10, 3), (8, .aload_n 0, 1), (9, .getfield 10, 3), (12, .getfield 134, 3), (15, .invokevirtual 137, 3), (18, .aload_n 0, 1), (19, .getfield 39, 3), (22, .aload_n 0, 1), (23, .getfield 32, 3), (26, .invokevirtual 196, 3), (29, .ireturn, 1)]
set_option maxRecDepth 20000 in
theorem DX9_fewestAgain : Tab cX9_fewestAgain tX9_fewestAgain = true := by decide +kernel
def tX9_watches : List (Nat × Instr × Nat) := [(0, .aload_n 0, 1), (1, .getfield 32, 3), (4, .aload_n 0, 1), (5, .getfield 10, 3), (8, .aload_n 0, 1), (9, .getfield 10, 3), (12, .getfield 134, 3), (15, .invokevirtual 137, 3), (18, .aload_n 0, 1), (19, .getfield 39, 3), (22, .aload_n 0, 1), (23, .getfield 32, 3), (26, .invokevirtual 147, 3), (29, .aload_n 0, 1), (30, .getfield 39, 3), (33, .getfield 200, 3), (36, .ireturn, 1)]
set_option maxRecDepth 20000 in
theorem DX9_watches : Tab cX9_watches tX9_watches = true := by decide +kernel
def tX9_isFull : List (Nat × Instr × Nat) := [(0, .iload_n 1, 1), (1, .ifCond .lt 16, 3), (4, .iload_n 1, 1), (5, .iconst 1, 1), (6, .aload_n 0, 1), (7, .getfield 10, 3), (10, .getfield 203, 3), (13, .ishl, 1), (14, .if_icmp .lt 5, 3), (17, .iconst (-1), 1), (18, .ireturn, 1), (19, .aload_n 0, 1), (20, .getfield 32, 3), (23, .aload_n 0, 1), (24, .getfield 10, 3), (27, .aload_n 0, 1), (28, .getfield 10, 3), (31, .getfield 134, 3), (34, .invokevirtual 137, 3), (37, .aload_n 0, 1), (38, .getfield 32, 3), (41, .iload_n 1, 1), (42, .invokevirtual 171, 3), (45, .ldc 206, 2), (47, .if_icmp .ne 7, 3), (50, .iconst 1, 1), (51, .goto 4, 3), (54, .iconst 0, 1), (55, .ireturn, 1)]
set_option maxRecDepth 20000 in
theorem DX9_isFull : Tab cX9_isFull tX9_isFull = true := by decide +kernel
def tX9_spare : List (Nat × Instr × Nat) := [(0, .aload_n 0, 1), (1, .getfield 32, 3), (4, .aload_n 0, 1), (5, .getfield 10, 3), (8, .aload_n 0, 1), (9, .getfield 10, 3), (12, .getfield 134, 3), (15, .invokevirtual 137, 3), (18, .aload_n 0, 1), (19, .getfield 32, 3), (22, .aload_n 0, 1), (23, .getfield 32, 3), (26, .getfield 163, 3), (29, .invokevirtual 171, 3), (32, .istore_n 1, 1), (33, .aload_n 0, 1), (34, .getfield 32, 3), (37, .getfield 163, 3), (40, .istore_n 2, 1), (41, .bipush 8, 2), (43, .istore_n 3, 1), (44, .iload_n 3, 1), (45, .ifCond .lt 34, 3), (48, .iload_n 2, 1), (49, .iconst 1, 1), (50, .iload_n 3, 1), (51, .ishl, 1), (52, .iconst (-1), 1), (53, .ixor, 1), (54, .iand, 1), (55, .istore 4, 2), (57, .aload_n 0, 1), (58, .getfield 32, 3), (61, .iload 4, 2), (63, .invokevirtual 171, 3), (66, .iload_n 1, 1), (67, .if_icmp .ne 6, 3), (70, .iload 4, 2), (72, .istore_n 2, 1), (73, .iinc 3 (-1), 3), (76, .goto (-32), 3), (79, .aload_n 0, 1), (80, .getfield 32, 3), (83, .getfield 163, 3), (86, .invokestatic 166, 3), (89, .iload_n 2, 1), (90, .invokestatic 166, 3), (93, .isub, 1), (94, .ireturn, 1)]
set_option maxRecDepth 20000 in
theorem DX9_spare : Tab cX9_spare tX9_spare = true := by decide +kernel
def tX9_next : List (Nat × Instr × Nat) := [(0, .aload_n 0, 1), (1, .getfield 32, 3), (4, .aload_n 0, 1), (5, .getfield 10, 3), (8, .aload_n 0, 1), (9, .getfield 10, 3), (12, .getfield 134, 3), (15, .invokevirtual 137, 3), (18, .aload_n 0, 1), (19, .aload_n 0, 1), (20, .getfield 32, 3), (23, .getfield 163, 3), (26, .invokevirtual 207, 3), (29, .ireturn, 1)]
set_option maxRecDepth 20000 in
theorem DX9_next : Tab cX9_next tX9_next = true := by decide +kernel
def tX9_greedy : List (Nat × Instr × Nat) := [(0, .aload_n 0, 1), (1, .getfield 32, 3), (4, .aload_n 0, 1), (5, .getfield 10, 3), (8, .aload_n 0, 1), (9, .getfield 10, 3), (12, .getfield 134, 3), (15, .invokevirtual 137, 3), (18, .aload_n 0, 1), (19, .getfield 32, 3), (22, .getfield 163, 3), (25, .istore_n 1, 1), (26, .iconst 0, 1), (27, .istore_n 2, 1), (28, .iload_n 2, 1), (29, .bipush 9, 2), (31, .if_icmp .ge 30, 3), (34, .aload_n 0, 1), (35, .iload_n 1, 1), (36, .invokevirtual 207, 3), (39, .istore_n 3, 1), (40, .iload_n 3, 1), (41, .bipush (-4), 2), (43, .if_icmp .ne 6, 3), (46, .goto 15, 3), (49, .iload_n 1, 1), (50, .iconst 1, 1), (51, .iload_n 3, 1), (52, .ishl, 1), (53, .ior, 1), (54, .istore_n 1, 1), (55, .iinc 2 1, 3), (58, .goto (-30), 3), (61, .iload_n 1, 1), (62, .invokestatic 166, 3), (65, .ireturn, 1)]
set_option maxRecDepth 20000 in
theorem DX9_greedy : Tab cX9_greedy tX9_greedy = true := by decide +kernel
def tX9_wouldNeed : List (Nat × Instr × Nat) := [(0, .iload_n 1, 1), (1, .invokestatic 210, 3), (4, .ifCond .ne 6, 3), (7, .bipush (-2), 2), (9, .ireturn, 1), (10, .aload_n 0, 1), (11, .getfield 32, 3), (14, .aload_n 0, 1), (15, .getfield 10, 3), (18, .iload_n 1, 1), (19, .invokevirtual 137, 3), (22, .aload_n 0, 1), (23, .getfield 39, 3), (26, .aload_n 0, 1), (27, .getfield 32, 3), (30, .invokevirtual 147, 3), (33, .aload_n 0, 1), (34, .getfield 39, 3), (37, .getfield 193, 3), (40, .bipush (-4), 2), (42, .if_icmp .ne 8, 3), (45, .bipush (-4), 2), (47, .goto 13, 3), (50, .aload_n 0, 1), (51, .getfield 39, 3), (54, .getfield 193, 3), (57, .invokestatic 166, 3), (60, .ireturn, 1)]
set_option maxRecDepth 20000 in
theorem DX9_wouldNeed : Tab cX9_wouldNeed tX9_wouldNeed = true := by decide +kernel
def tX9_wouldTurn : List (Nat × Instr × Nat) := [(0, .iload_n 1, 1), (1, .ifCond .lt 9, 3), (4, .iload_n 1, 1), (5, .bipush 24, 2), (7, .if_icmp .lt 6, 3), (10, .bipush (-2), 2), (12, .ireturn, 1), (13, .aload_n 0, 1), (14, .getfield 32, 3), (17, .aload_n 0, 1), (18, .getfield 10, 3), (21, .aload_n 0, 1), (22, .getfield 10, 3), (25, .getfield 134, 3), (28, .invokevirtual 137, 3), (31, .aload_n 0, 1), (32, .getfield 32, 3), (35, .aload_n 0, 1), (36, .getfield 32, 3), (39, .getfield 163, 3), (42, .invokevirtual 171, 3), (45, .iload_n 1, 1), (46, .invokestatic 213, 3), (49, .invokestatic 166, 3), (52, .ireturn, 1)]
set_option maxRecDepth 20000 in
theorem DX9_wouldTurn : Tab cX9_wouldTurn tX9_wouldTurn = true := by decide +kernel
def tX9_ranked : List (Nat × Instr × Nat) := [(0, .iload_n 1, 1), (1, .ifCond .lt 8, 3), (4, .iload_n 1, 1), (5, .iconst 2, 1), (6, .if_icmp .le 6, 3), (9, .bipush (-2), 2), (11, .ireturn, 1), (12, .iload_n 2, 1), (13, .ifCond .lt 14, 3), (16, .iload_n 2, 1), (17, .aload_n 0, 1), (18, .getfield 10, 3), (21, .getfield 203, 3), (24, .if_icmp .lt 5, 3), (27, .iconst (-1), 1), (28, .ireturn, 1), (29, .aload_n 0, 1), (30, .getfield 32, 3), (33, .aload_n 0, 1), (34, .getfield 10, 3), (37, .aload_n 0, 1), (38, .getfield 10, 3), (41, .getfield 134, 3), (44, .invokevirtual 137, 3), (47, .iconst 0, 1), (48, .istore_n 3, 1), (49, .iload_n 3, 1), (50, .bipush 9, 2), (52, .if_icmp .ge 23, 3), (55, .aload_n 0, 1), (56, .getfield 53, 3), (59, .iload_n 3, 1), (60, .aload_n 0, 1), (61, .iload_n 1, 1), (62, .iload_n 3, 1), (63, .invokevirtual 216, 3), (66, .invokevirtual 219, 3), (69, .iinc 3 1, 3), (72, .goto (-23), 3), (75, .aload_n 0, 1), (76, .getfield 53, 3), (79, .iload_n 2, 1), (80, .aload_n 0, 1), (81, .getfield 10, 3), (84, .getfield 203, 3), (87, .invokevirtual 223, 3), (90, .ireturn, 1)]
set_option maxRecDepth 20000 in
theorem DX9_ranked : Tab cX9_ranked tX9_ranked = true := by decide +kernel
def tX9_describe : List (Nat × Instr × Nat) := [(0, .aload_n 0, 1), (1, .getfield 10, 3), (4, .iload_n 1, 1), (5, .invokevirtual 127, 3), (8, .ifCond .ne 5, 3), (11, .iconst (-1), 1), (12, .ireturn, 1), (13, .aload_n 0, 1), (14, .getfield 67, 3), (17, .invokevirtual 226, 3), (20, .aload_n 0, 1), (21, .getfield 67, 3), (24, .iload_n 1, 1), (25, .invokevirtual 229, 3), (28, .aload_n 0, 1), (29, .bipush 64, 2), (31, .aload_n 0, 1), (32, .getfield 10, 3), (35, .iload_n 1, 1), (36, .iconst 0, 1), (37, .invokevirtual 131, 3), (40, .invokevirtual 232, 3), (43, .aload_n 0, 1), (44, .bipush 60, 2), (46, .aload_n 0, 1), (47, .getfield 10, 3), (50, .iload_n 1, 1), (51, .iconst 1, 1), (52, .invokevirtual 131, 3), (55, .invokevirtual 232, 3), (58, .aload_n 0, 1), (59, .bipush 62, 2), (61, .aload_n 0, 1), (62, .getfield 10, 3), (65, .iload_n 1, 1), (66, .iconst 2, 1), (67, .invokevirtual 131, 3), (70, .invokevirtual 232, 3), (73, .aload_n 0, 1), (74, .getfield 10, 3), (77, .iload_n 1, 1), (78, .iconst 4, 1), (79, .invokevirtual 131, 3), (82, .ifCond .le 33, 3), (85, .aload_n 0, 1), (86, .bipush 33, 2), (88, .aload_n 0, 1), (89, .getfield 10, 3), (92, .iload_n 1, 1), (93, .iconst 3, 1), (94, .invokevirtual 131, 3), (97, .invokevirtual 232, 3), (100, .aload_n 0, 1), (101, .bipush 43, 2), (103, .aload_n 0, 1), (104, .getfield 10, 3), (107, .iload_n 1, 1), (108, .iconst 4, 1), (109, .invokevirtual 131, 3), (112, .invokevirtual 232, 3), (115, .aload_n 0, 1), (116, .getfield 10, 3), (119, .iload_n 1, 1), (120, .iconst 5, 1), (121, .invokevirtual 131, 3), (124, .iconst 1, 1), (125, .if_icmp .ne 12, 3), (128, .aload_n 0, 1), (129, .getfield 67, 3), (132, .bipush 42, 2), (134, .invokevirtual 235, 3), (137, .aload_n 0, 1), (138, .getfield 67, 3), (141, .getfield 238, 3), (144, .ireturn, 1)]
set_option maxRecDepth 20000 in
theorem DX9_describe : Tab cX9_describe tX9_describe = true := by decide +kernel
def tX9_show : List (Nat × Instr × Nat) := [(0, .aload_n 0, 1), (1, .getfield 32, 3), (4, .aload_n 0, 1), (5, .getfield 10, 3), (8, .aload_n 0, 1), (9, .getfield 10, 3), (12, .getfield 134, 3), (15, .invokevirtual 137, 3), (18, .aload_n 0, 1), (19, .getfield 67, 3), (22, .invokevirtual 226, 3), (25, .iconst 0, 1), (26, .istore_n 1, 1), (27, .iload_n 1, 1), (28, .bipush 24, 2), (30, .if_icmp .ge 38, 3), (33, .aload_n 0, 1), (34, .getfield 67, 3), (37, .aload_n 0, 1), (38, .getfield 32, 3), (41, .iload_n 1, 1), (42, .invokevirtual 160, 3), (45, .aload_n 0, 1), (46, .getfield 32, 3), (49, .getfield 163, 3), (52, .iand, 1), (53, .invokestatic 166, 3), (56, .invokestatic 241, 3), (59, .invokevirtual 235, 3), (62, .iinc 1 1, 3), (65, .goto (-38), 3), (68, .aload_n 0, 1), (69, .getfield 67, 3), (72, .getfield 238, 3), (75, .ireturn, 1)]
set_option maxRecDepth 20000 in
theorem DX9_show : Tab cX9_show tX9_show = true := by decide +kernel
def tX9_sign : List (Nat × Instr × Nat) := [(0, .aload_n 0, 1), (1, .getfield 67, 3), (4, .iload_n 1, 1), (5, .invokevirtual 244, 3), (8, .ireturn, 1)]
set_option maxRecDepth 20000 in
theorem DX9_sign : Tab cX9_sign tX9_sign = true := by decide +kernel
def tX9_append : List (Nat × Instr × Nat) := [(0, .iload_n 1, 1), (1, .bipush 32, 2), (3, .if_icmp .lt 9, 3), (6, .iload_n 1, 1), (7, .bipush 126, 2), (9, .if_icmp .le 6, 3), (12, .bipush (-2), 2), (14, .ireturn, 1), (15, .aload_n 0, 1), (16, .getfield 60, 3), (19, .iload_n 1, 1), (20, .invokevirtual 247, 3), (23, .ireturn, 1)]
set_option maxRecDepth 20000 in
theorem DX9_append : Tab cX9_append tX9_append = true := by decide +kernel
def tX9_read : List (Nat × Instr × Nat) := [(0, .aload_n 0, 1), (1, .getfield 60, 3), (4, .invokevirtual 249, 3), (7, .istore_n 1, 1), (8, .iload_n 1, 1), (9, .iconst (-1), 1), (10, .if_icmp .eq 15, 3), (13, .aload_n 0, 1), (14, .getfield 60, 3), (17, .invokevirtual 252, 3), (20, .bipush (-100), 2), (22, .iload_n 1, 1), (23, .isub, 1), (24, .ireturn, 1), (25, .aload_n 0, 1), (26, .getfield 16, 3), (29, .aload_n 0, 1), (30, .getfield 10, 3), (33, .invokevirtual 86, 3), (36, .aload_n 0, 1), (37, .aload_n 0, 1), (38, .invokevirtual 253, 3), (41, .invokevirtual 94, 3), (44, .istore_n 2, 1), (45, .iload_n 2, 1), (46, .ifCond .ge 14, 3), (49, .aload_n 0, 1), (50, .getfield 10, 3), (53, .aload_n 0, 1), (54, .getfield 16, 3), (57, .invokevirtual 86, 3), (60, .aload_n 0, 1), (61, .bipush (-4), 2), (63, .putfield 82, 3), (66, .aload_n 0, 1), (67, .getfield 60, 3), (70, .invokevirtual 252, 3), (73, .iload_n 2, 1), (74, .ireturn, 1)]
set_option maxRecDepth 20000 in
theorem DX9_read : Tab cX9_read tX9_read = true := by decide +kernel
def tX9_refusal : List (Nat × Instr × Nat) := [(0, .iload_n 1, 1), (1, .ifCond .lt 8, 3), (4, .iload_n 1, 1), (5, .iconst 2, 1), (6, .if_icmp .le 6, 3), (9, .bipush (-2), 2), (11, .ireturn, 1), (12, .aload_n 0, 1), (13, .getfield 74, 3), (16, .iload_n 1, 1), (17, .invokevirtual 256, 3), (20, .ireturn, 1)]
set_option maxRecDepth 20000 in
theorem DX9_refusal : Tab cX9_refusal tX9_refusal = true := by decide +kernel
def tX9_account : List (Nat × Instr × Nat) := [(0, .iload_n 1, 1), (1, .ifCond .lt 9, 3), (4, .iload_n 1, 1), (5, .bipush 12, 2), (7, .if_icmp .le 6, 3), (10, .bipush (-2), 2), (12, .ireturn, 1), (13, .iload_n 1, 1), (14, .bipush 11, 2), (16, .if_icmp .ne 11, 3), (19, .aload_n 0, 1), (20, .getfield 60, 3), (23, .getfield 258, 3), (26, .ireturn, 1), (27, .iload_n 1, 1), (28, .bipush 12, 2), (30, .if_icmp .ne 11, 3), (33, .aload_n 0, 1), (34, .getfield 25, 3), (37, .getfield 259, 3), (40, .ireturn, 1), (41, .iload_n 1, 1), (42, .bipush 7, 2), (44, .if_icmp .lt 14, 3), (47, .aload_n 0, 1), (48, .getfield 10, 3), (51, .iload_n 1, 1), (52, .invokevirtual 262, 3), (55, .goto 8, 3), (58, .aload_n 0, 1), (59, .iload_n 1, 1), (60, .invokevirtual 265, 3), (63, .ireturn, 1)]
set_option maxRecDepth 20000 in
theorem DX9_account : Tab cX9_account tX9_account = true := by decide +kernel
def tX9_isWell : List (Nat × Instr × Nat) := [(0, .aload_n 0, 1), (1, .getfield 32, 3), (4, .aload_n 0, 1), (5, .getfield 10, 3), (8, .aload_n 0, 1), (9, .getfield 10, 3), (12, .getfield 134, 3), (15, .invokevirtual 137, 3), (18, .aload_n 0, 1), (19, .getfield 39, 3), (22, .aload_n 0, 1), (23, .getfield 32, 3), (26, .invokevirtual 147, 3), (29, .aload_n 0, 1), (30, .getfield 39, 3), (33, .getfield 193, 3), (36, .istore_n 1, 1), (37, .iload_n 1, 1), (38, .aload_n 0, 1), (39, .getfield 39, 3), (42, .aload_n 0, 1), (43, .getfield 32, 3), (46, .invokevirtual 196, 3), (49, .if_icmp .eq 5, 3), (52, .iconst 0, 1), (53, .ireturn, 1), (54, .iload_n 1, 1), (55, .bipush (-4), 2), (57, .if_icmp .eq 18, 3), (60, .aload_n 0, 1), (61, .getfield 32, 3), (64, .iload_n 1, 1), (65, .invokevirtual 171, 3), (68, .ldc 206, 2), (70, .if_icmp .eq 5, 3), (73, .iconst 0, 1), (74, .ireturn, 1), (75, .aload_n 0, 1), (76, .getfield 32, 3), (79, .aload_n 0, 1), (80, .getfield 32, 3), (83, .getfield 163, 3), (86, .invokevirtual 171, 3), (89, .istore_n 2, 1), (90, .aload_n 0, 1), (91, .getfield 46, 3), (94, .iload_n 2, 1), (95, .invokevirtual 174, 3), (98, .iload_n 2, 1), (99, .invokestatic 166, 3), (102, .aload_n 0, 1), (103, .getfield 46, 3), (106, .invokevirtual 268, 3), (109, .iadd, 1), (110, .bipush 24, 2), (112, .if_icmp .ne 7, 3), (115, .iconst 1, 1), (116, .goto 4, 3), (119, .iconst 0, 1), (120, .ireturn, 1)]
set_option maxRecDepth 20000 in
theorem DX9_isWell : Tab cX9_isWell tX9_isWell = true := by decide +kernel
def tX9_mean : List (Nat × Instr × Nat) := [(0, .aload_n 0, 1), (1, .getfield 32, 3), (4, .aload_n 0, 1), (5, .getfield 10, 3), (8, .aload_n 0, 1), (9, .getfield 10, 3), (12, .getfield 134, 3), (15, .invokevirtual 137, 3), (18, .iconst 0, 1), (19, .istore_n 1, 1), (20, .iconst 0, 1), (21, .istore_n 2, 1), (22, .iload_n 2, 1), (23, .bipush 9, 2), (25, .if_icmp .ge 34, 3), (28, .aload_n 0, 1), (29, .getfield 32, 3), (32, .getfield 163, 3), (35, .iload_n 2, 1), (36, .invokestatic 271, 3), (39, .ifCond .eq 14, 3), (42, .iload_n 1, 1), (43, .aload_n 0, 1), (44, .getfield 32, 3), (47, .iload_n 2, 1), (48, .invokevirtual 141, 3), (51, .iadd, 1), (52, .istore_n 1, 1), (53, .iinc 2 1, 3), (56, .goto (-34), 3), (59, .iload_n 1, 1), (60, .i2f, 1), (61, .ldc_w 275, 3), (64, .fdiv, 1), (65, .invokestatic 276, 3), (68, .ireturn, 1)]
set_option maxRecDepth 20000 in
theorem DX9_mean : Tab cX9_mean tX9_mean = true := by decide +kernel
def tX9_undo : List (Nat × Instr × Nat) := [(0, .aload_n 0, 1), (1, .getfield 25, 3), (4, .getfield 259, 3), (7, .ifCond .gt 6, 3), (10, .bipush (-4), 2), (12, .ireturn, 1), (13, .aload_n 0, 1), (14, .getfield 25, 3), (17, .aload_n 0, 1), (18, .getfield 10, 3), (21, .invokevirtual 280, 3), (24, .aload_n 0, 1), (25, .getfield 25, 3), (28, .getfield 259, 3), (31, .ireturn, 1)]
set_option maxRecDepth 20000 in
theorem DX9_undo : Tab cX9_undo tX9_undo = true := by decide +kernel
def tX9_save : List (Nat × Instr × Nat) := [(0, .aload_n 0, 1), (1, .getfield 19, 3), (4, .aload_n 0, 1), (5, .getfield 10, 3), (8, .invokevirtual 86, 3), (11, .aload_n 0, 1), (12, .iconst 1, 1), (13, .putfield 78, 3), (16, .aload_n 0, 1), (17, .getfield 10, 3), (20, .getfield 203, 3), (23, .ireturn, 1)]
set_option maxRecDepth 20000 in
theorem DX9_save : Tab cX9_save tX9_save = true := by decide +kernel
def tX9_restore : List (Nat × Instr × Nat) := [(0, .aload_n 0, 1), (1, .getfield 78, 3), (4, .ifCond .ne 6, 3), (7, .bipush (-4), 2), (9, .ireturn, 1), (10, .aload_n 0, 1), (11, .getfield 10, 3), (14, .aload_n 0, 1), (15, .getfield 19, 3), (18, .invokevirtual 86, 3), (21, .aload_n 0, 1), (22, .getfield 25, 3), (25, .invokevirtual 283, 3), (28, .aload_n 0, 1), (29, .getfield 10, 3), (32, .getfield 203, 3), (35, .ireturn, 1)]
set_option maxRecDepth 20000 in
theorem DX9_restore : Tab cX9_restore tX9_restore = true := by decide +kernel
def tX9_kept : List (Nat × Instr × Nat) := [(0, .iload_n 1, 1), (1, .ifCond .lt 14, 3), (4, .aload_n 0, 1), (5, .getfield 25, 3), (8, .aload_n 0, 1), (9, .getfield 16, 3), (12, .invokevirtual 286, 3), (15, .iload_n 1, 1), (16, .ireturn, 1)]
set_option maxRecDepth 20000 in
theorem DX9_kept : Tab cX9_kept tX9_kept = true := by decide +kernel
def tX9_refuse : List (Nat × Instr × Nat) := [(0, .aload_n 0, 1), (1, .getfield 74, 3), (4, .iload_n 1, 1), (5, .iload_n 2, 1), (6, .aload_n 0, 1), (7, .getfield 82, 3), (10, .invokevirtual 289, 3), (13, .bipush (-3), 2), (15, .ireturn, 1)]
set_option maxRecDepth 20000 in
theorem DX9_refuse : Tab cX9_refuse tX9_refuse = true := by decide +kernel
def tX9_buildPost : List (Nat × Instr × Nat) := [(0, .iload_n 1, 1), (1, .invokestatic 154, 3), (4, .ifCond .ne 5, 3), (7, .iconst (-1), 1), (8, .ireturn, 1), (9, .iload_n 2, 1), (10, .invokestatic 293, 3), (13, .ifCond .eq 10, 3), (16, .iload_n 3, 1), (17, .invokestatic 293, 3), (20, .ifCond .ne 6, 3), (23, .bipush (-2), 2), (25, .ireturn, 1), (26, .aload_n 0, 1), (27, .getfield 10, 3), (30, .iload_n 1, 1), (31, .invokevirtual 296, 3), (34, .istore 4, 2), (36, .iload 4, 2), (38, .iconst (-1), 1), (39, .if_icmp .eq 11, 3), (42, .aload_n 0, 1), (43, .iconst 2, 1), (44, .iload 4, 2), (46, .invokevirtual 299, 3), (49, .ireturn, 1), (50, .aload_n 0, 1), (51, .getfield 10, 3), (54, .getfield 203, 3), (57, .bipush 9, 2), (59, .if_icmp .lt 11, 3), (62, .aload_n 0, 1), (63, .iconst 1, 1), (64, .bipush 9, 2), (66, .invokevirtual 299, 3), (69, .ireturn, 1), (70, .aload_n 0, 1), (71, .getfield 10, 3), (74, .iload_n 1, 1), (75, .iload_n 2, 1), (76, .iload_n 3, 1), (77, .invokevirtual 302, 3), (80, .ireturn, 1)]
set_option maxRecDepth 20000 in
theorem DX9_buildPost : Tab cX9_buildPost tX9_buildPost = true := by decide +kernel
def tX9_tearDown : List (Nat × Instr × Nat) := [(0, .aload_n 0, 1), (1, .getfield 10, 3), (4, .iload_n 1, 1), (5, .invokevirtual 127, 3), (8, .ifCond .ne 5, 3), (11, .iconst (-1), 1), (12, .ireturn, 1), (13, .aload_n 0, 1), (14, .getfield 10, 3), (17, .iload_n 1, 1), (18, .invokevirtual 305, 3), (21, .aload_n 0, 1), (22, .getfield 10, 3), (25, .getfield 203, 3), (28, .ireturn, 1)]
set_option maxRecDepth 20000 in
theorem DX9_tearDown : Tab cX9_tearDown tX9_tearDown = true := by decide +kernel
def tX9_tellReaches : List (Nat × Instr × Nat) := [(0, .aload_n 0, 1), (1, .getfield 10, 3), (4, .iload_n 1, 1), (5, .invokevirtual 127, 3), (8, .ifCond .ne 5, 3), (11, .iconst (-1), 1), (12, .ireturn, 1), (13, .iload_n 2, 1), (14, .invokestatic 293, 3), (17, .ifCond .eq 10, 3), (20, .iload_n 3, 1), (21, .invokestatic 293, 3), (24, .ifCond .ne 6, 3), (27, .bipush (-2), 2), (29, .ireturn, 1), (30, .aload_n 0, 1), (31, .getfield 10, 3), (34, .getfield 308, 3), (37, .iload_n 1, 1), (38, .iaload, 1), (39, .istore 4, 2), (41, .aload_n 0, 1), (42, .getfield 10, 3), (45, .getfield 312, 3), (48, .iload_n 1, 1), (49, .iaload, 1), (50, .istore 5, 2), (52, .iload 4, 2), (54, .iload_n 2, 1), (55, .if_icmp .ne 16, 3), (58, .iload 5, 2), (60, .iload_n 3, 1), (61, .if_icmp .ne 10, 3), (64, .aload_n 0, 1), (65, .iconst 3, 1), (66, .iload_n 2, 1), (67, .invokevirtual 299, 3), (70, .ireturn, 1), (71, .aload_n 0, 1), (72, .getfield 10, 3), (75, .getfield 308, 3), (78, .iload_n 1, 1), (79, .iload_n 2, 1), (80, .iastore, 1), (81, .aload_n 0, 1), (82, .getfield 10, 3), (85, .getfield 312, 3), (88, .iload_n 1, 1), (89, .iload_n 3, 1), (90, .iastore, 1), (91, .bipush 100, 2), (93, .iload 4, 2), (95, .imul, 1), (96, .iload 5, 2), (98, .iadd, 1), (99, .ireturn, 1)]
set_option maxRecDepth 20000 in
theorem DX9_tellReaches : Tab cX9_tellReaches tX9_tellReaches = true := by decide +kernel
def tX9_tellBlindAngle : List (Nat × Instr × Nat) := [(0, .aload_n 0, 1), (1, .getfield 10, 3), (4, .iload_n 1, 1), (5, .invokevirtual 127, 3), (8, .ifCond .eq 10, 3), (11, .iload_n 2, 1), (12, .invokestatic 154, 3), (15, .ifCond .ne 5, 3), (18, .iconst (-1), 1), (19, .ireturn, 1), (20, .iload_n 3, 1), (21, .iconst 1, 1), (22, .if_icmp .lt 9, 3), (25, .iload_n 3, 1), (26, .bipush 8, 2), (28, .if_icmp .le 6, 3), (31, .bipush (-2), 2), (33, .ireturn, 1), (34, .aload_n 0, 1), (35, .getfield 10, 3), (38, .getfield 315, 3), (41, .iload_n 1, 1), (42, .iaload, 1), (43, .iload_n 2, 1), (44, .if_icmp .ne 23, 3), (47, .aload_n 0, 1), (48, .getfield 10, 3), (51, .getfield 318, 3), (54, .iload_n 1, 1), (55, .iaload, 1), (56, .iload_n 3, 1), (57, .if_icmp .ne 10, 3), (60, .aload_n 0, 1), (61, .iconst 3, 1), (62, .iload_n 2, 1), (63, .invokevirtual 299, 3), (66, .ireturn, 1), (67, .aload_n 0, 1), (68, .getfield 10, 3), (71, .getfield 315, 3), (74, .iload_n 1, 1), (75, .iload_n 2, 1), (76, .iastore, 1), (77, .aload_n 0, 1), (78, .getfield 10, 3), (81, .getfield 318, 3), (84, .iload_n 1, 1), (85, .iload_n 3, 1), (86, .iastore, 1), (87, .iconst 0, 1), (88, .ireturn, 1)]
set_option maxRecDepth 20000 in
theorem DX9_tellBlindAngle : Tab cX9_tellBlindAngle tX9_tellBlindAngle = true := by decide +kernel
def tX9_dropBlindAngle : List (Nat × Instr × Nat) := [(0, .aload_n 0, 1), (1, .getfield 10, 3), (4, .iload_n 1, 1), (5, .invokevirtual 127, 3), (8, .ifCond .ne 5, 3), (11, .iconst (-1), 1), (12, .ireturn, 1), (13, .aload_n 0, 1), (14, .getfield 10, 3), (17, .getfield 318, 3), (20, .iload_n 1, 1), (21, .iaload, 1), (22, .ifCond .ne 10, 3), (25, .aload_n 0, 1), (26, .iconst 5, 1), (27, .iload_n 1, 1), (28, .invokevirtual 299, 3), (31, .ireturn, 1), (32, .aload_n 0, 1), (33, .getfield 10, 3), (36, .getfield 315, 3), (39, .iload_n 1, 1), (40, .bipush (-4), 2), (42, .iastore, 1), (43, .aload_n 0, 1), (44, .getfield 10, 3), (47, .getfield 318, 3), (50, .iload_n 1, 1), (51, .iconst 0, 1), (52, .iastore, 1), (53, .iconst 0, 1), (54, .ireturn, 1)]
set_option maxRecDepth 20000 in
theorem DX9_dropBlindAngle : Tab cX9_dropBlindAngle tX9_dropBlindAngle = true := by decide +kernel
def tX9_letBeManned : List (Nat × Instr × Nat) := [(0, .aload_n 0, 1), (1, .getfield 10, 3), (4, .iload_n 1, 1), (5, .invokevirtual 127, 3), (8, .ifCond .ne 5, 3), (11, .iconst (-1), 1), (12, .ireturn, 1), (13, .iload_n 2, 1), (14, .ifCond .eq 11, 3), (17, .iload_n 2, 1), (18, .iconst 1, 1), (19, .if_icmp .eq 6, 3), (22, .bipush (-2), 2), (24, .ireturn, 1), (25, .aload_n 0, 1), (26, .getfield 10, 3), (29, .getfield 321, 3), (32, .iload_n 1, 1), (33, .iaload, 1), (34, .iload_n 2, 1), (35, .if_icmp .ne 10, 3), (38, .aload_n 0, 1), (39, .iconst 3, 1), (40, .iload_n 2, 1), (41, .invokevirtual 299, 3), (44, .ireturn, 1), (45, .aload_n 0, 1), (46, .getfield 10, 3), (49, .getfield 321, 3), (52, .iload_n 1, 1), (53, .iload_n 2, 1), (54, .iastore, 1), (55, .iconst 0, 1), (56, .ireturn, 1)]
set_option maxRecDepth 20000 in
theorem DX9_letBeManned : Tab cX9_letBeManned tX9_letBeManned = true := by decide +kernel
def tX9_tellHour : List (Nat × Instr × Nat) := [(0, .iload_n 1, 1), (1, .invokestatic 210, 3), (4, .ifCond .ne 6, 3), (7, .bipush (-2), 2), (9, .ireturn, 1), (10, .aload_n 0, 1), (11, .getfield 10, 3), (14, .getfield 134, 3), (17, .istore_n 2, 1), (18, .iload_n 2, 1), (19, .iload_n 1, 1), (20, .if_icmp .ne 10, 3), (23, .aload_n 0, 1), (24, .iconst 3, 1), (25, .iload_n 1, 1), (26, .invokevirtual 299, 3), (29, .ireturn, 1), (30, .aload_n 0, 1), (31, .getfield 10, 3), (34, .iload_n 1, 1), (35, .putfield 134, 3), (38, .iload_n 2, 1), (39, .ireturn, 1)]
set_option maxRecDepth 20000 in
theorem DX9_tellHour : Tab cX9_tellHour tX9_tellHour = true := by decide +kernel
def tX9_manFewest : List (Nat × Instr × Nat) := [(0, .aload_n 0, 1), (1, .getfield 32, 3), (4, .aload_n 0, 1), (5, .getfield 10, 3), (8, .aload_n 0, 1), (9, .getfield 10, 3), (12, .getfield 134, 3), (15, .invokevirtual 137, 3), (18, .aload_n 0, 1), (19, .getfield 39, 3), (22, .aload_n 0, 1), (23, .getfield 32, 3), (26, .invokevirtual 147, 3), (29, .aload_n 0, 1), (30, .getfield 39, 3), (33, .getfield 193, 3), (36, .bipush (-4), 2), (38, .if_icmp .ne 13, 3), (41, .aload_n 0, 1), (42, .iconst 4, 1), (43, .aload_n 0, 1), (44, .invokevirtual 323, 3), (47, .invokevirtual 299, 3), (50, .ireturn, 1), (51, .aload_n 0, 1), (52, .getfield 10, 3), (55, .aload_n 0, 1), (56, .getfield 39, 3), (59, .getfield 193, 3), (62, .invokevirtual 326, 3), (65, .aload_n 0, 1), (66, .getfield 39, 3), (69, .getfield 193, 3), (72, .invokestatic 166, 3), (75, .ireturn, 1)]
set_option maxRecDepth 20000 in
theorem DX9_manFewest : Tab cX9_manFewest tX9_manFewest = true := by decide +kernel
def tX9_carryOutAll : List (Nat × Instr × Nat) := [(0, .aload_n 0, 1), (1, .getfield 60, 3), (4, .invokevirtual 329, 3), (7, .iconst 0, 1), (8, .istore_n 1, 1), (9, .iconst 0, 1), (10, .istore_n 2, 1), (11, .iload_n 2, 1), (12, .bipush 70, 2), (14, .if_icmp .ge 60, 3), (17, .aload_n 0, 1), (18, .getfield 60, 3), (21, .invokevirtual 332, 3), (24, .ifCond .eq 50, 3), (27, .aload_n 0, 1), (28, .iload_n 2, 1), (29, .putfield 82, 3), (32, .aload_n 0, 1), (33, .invokevirtual 336, 3), (36, .istore_n 3, 1), (37, .iload_n 3, 1), (38, .ifCond .ge 17, 3), (41, .iload_n 3, 1), (42, .bipush (-3), 2), (44, .if_icmp .ne 8, 3), (47, .bipush (-3), 2), (49, .goto 5, 3), (52, .bipush (-2), 2), (54, .ireturn, 1), (55, .iinc 1 1, 3), (58, .aload_n 0, 1), (59, .getfield 60, 3), (62, .bipush 59, 2), (64, .invokevirtual 339, 3), (67, .pop, 1), (68, .iinc 2 1, 3), (71, .goto (-60), 3), (74, .iload_n 1, 1), (75, .ireturn, 1)]
set_option maxRecDepth 20000 in
theorem DX9_carryOutAll : Tab cX9_carryOutAll tX9_carryOutAll = true := by decide +kernel
def tX9_carryOut : List (Nat × Instr × Nat) := [(0, .aload_n 0, 1), (1, .getfield 60, 3), (4, .getfield 342, 3), (7, .lookupswitch 226 #[(45, 107), (98, 145), (104, 209), (108, 196), (109, 183), (110, 171), (112, 81), (114, 119), (119, 221)], 81), (88, .aload_n 0, 1), (89, .aload_n 0, 1), (90, .getfield 60, 3), (93, .getfield 345, 3), (96, .aload_n 0, 1), (97, .getfield 60, 3), (100, .getfield 348, 3), (103, .aload_n 0, 1), (104, .getfield 60, 3), (107, .getfield 351, 3), (110, .invokevirtual 90, 3), (113, .ireturn, 1), (114, .aload_n 0, 1), (115, .aload_n 0, 1), (116, .getfield 60, 3), (119, .getfield 345, 3), (122, .invokevirtual 98, 3), (125, .ireturn, 1), (126, .aload_n 0, 1), (127, .aload_n 0, 1), (128, .getfield 60, 3), (131, .getfield 345, 3), (134, .aload_n 0, 1), (135, .getfield 60, 3), (138, .getfield 348, 3), (141, .aload_n 0, 1), (142, .getfield 60, 3), (145, .getfield 351, 3), (148, .invokevirtual 101, 3), (151, .ireturn, 1), (152, .aload_n 0, 1), (153, .aload_n 0, 1), (154, .getfield 60, 3), (157, .getfield 345, 3), (160, .aload_n 0, 1), (161, .getfield 60, 3), (164, .getfield 348, 3), (167, .aload_n 0, 1), (168, .getfield 60, 3), (171, .getfield 351, 3), (174, .invokevirtual 104, 3), (177, .ireturn, 1), (178, .aload_n 0, 1), (179, .aload_n 0, 1), (180, .getfield 60, 3), (183, .getfield 345, 3), (186, .invokevirtual 110, 3), (189, .ireturn, 1), (190, .aload_n 0, 1), (191, .aload_n 0, 1), (192, .getfield 60, 3), (195, .getfield 345, 3), (198, .iconst 1, 1), (199, .invokevirtual 113, 3), (202, .ireturn, 1), (203, .aload_n 0, 1), (204, .aload_n 0, 1), (205, .getfield 60, 3), (208, .getfield 345, 3), (211, .iconst 0, 1), (212, .invokevirtual 113, 3), (215, .ireturn, 1), (216, .aload_n 0, 1), (217, .aload_n 0, 1), (218, .getfield 60, 3), (221, .getfield 345, 3), (224, .invokevirtual 121, 3), (227, .ireturn, 1), (228, .aload_n 0, 1), (229, .invokevirtual 124, 3), (232, .ireturn, 1), (233, .bipush (-2), 2), (235, .ireturn, 1)]
set_option maxRecDepth 20000 in
theorem DX9_carryOut : Tab cX9_carryOut tX9_carryOut = true := by decide +kernel
def tX9_manySeenNow : List (Nat × Instr × Nat) := [(0, .aload_n 0, 1), (1, .getfield 32, 3), (4, .aload_n 0, 1), (5, .getfield 10, 3), (8, .aload_n 0, 1), (9, .getfield 10, 3), (12, .getfield 134, 3), (15, .invokevirtual 137, 3), (18, .aload_n 0, 1), (19, .getfield 32, 3), (22, .iload_n 1, 1), (23, .invokevirtual 141, 3), (26, .ireturn, 1)]
set_option maxRecDepth 20000 in
theorem DX9_manySeenNow : Tab cX9_manySeenNow tX9_manySeenNow = true := by decide +kernel
def tX9_manyWatchedNow : List (Nat × Instr × Nat) := [(0, .aload_n 0, 1), (1, .getfield 32, 3), (4, .aload_n 0, 1), (5, .getfield 10, 3), (8, .aload_n 0, 1), (9, .getfield 10, 3), (12, .getfield 134, 3), (15, .invokevirtual 137, 3), (18, .aload_n 0, 1), (19, .getfield 32, 3), (22, .aload_n 0, 1), (23, .getfield 32, 3), (26, .getfield 163, 3), (29, .invokevirtual 171, 3), (32, .invokestatic 166, 3), (35, .ireturn, 1)]
set_option maxRecDepth 20000 in
theorem DX9_manyWatchedNow : Tab cX9_manyWatchedNow tX9_manyWatchedNow = true := by decide +kernel
def tX9_manyUnseen : List (Nat × Instr × Nat) := [(0, .bipush 24, 2), (2, .aload_n 0, 1), (3, .getfield 32, 3), (6, .sipush 511, 3), (9, .invokevirtual 171, 3), (12, .invokestatic 166, 3), (15, .isub, 1), (16, .ireturn, 1)]
set_option maxRecDepth 20000 in
theorem DX9_manyUnseen : Tab cX9_manyUnseen tX9_manyUnseen = true := by decide +kernel
def tX9_closingMost : List (Nat × Instr × Nat) := [(0, .ldc 206, 2), (2, .aload_n 0, 1), (3, .getfield 32, 3), (6, .iload_n 1, 1), (7, .invokevirtual 171, 3), (10, .iconst (-1), 1), (11, .ixor, 1), (12, .iand, 1), (13, .istore_n 2, 1), (14, .aload_n 0, 1), (15, .getfield 32, 3), (18, .sipush 511, 3), (21, .iload_n 1, 1), (22, .iconst (-1), 1), (23, .ixor, 1), (24, .iand, 1), (25, .iload_n 2, 1), (26, .invokevirtual 190, 3), (29, .ireturn, 1)]
set_option maxRecDepth 20000 in
theorem DX9_closingMost : Tab cX9_closingMost tX9_closingMost = true := by decide +kernel
def tX9_keyOf : List (Nat × Instr × Nat) := [(0, .iload_n 1, 1), (1, .ifCond .ne 12, 3), (4, .aload_n 0, 1), (5, .getfield 32, 3), (8, .iload_n 2, 1), (9, .invokevirtual 141, 3), (12, .ireturn, 1), (13, .iload_n 1, 1), (14, .iconst 1, 1), (15, .if_icmp .ne 16, 3), (18, .aload_n 0, 1), (19, .getfield 10, 3), (22, .iload_n 2, 1), (23, .iconst 0, 1), (24, .invokevirtual 131, 3), (27, .ineg, 1), (28, .goto 11, 3), (31, .aload_n 0, 1), (32, .getfield 32, 3), (35, .iload_n 2, 1), (36, .invokevirtual 144, 3), (39, .ireturn, 1)]
set_option maxRecDepth 20000 in
theorem DX9_keyOf : Tab cX9_keyOf tX9_keyOf = true := by decide +kernel
def tX9_sightAccount : List (Nat × Instr × Nat) := [(0, .aload_n 0, 1), (1, .getfield 32, 3), (4, .aload_n 0, 1), (5, .getfield 10, 3), (8, .aload_n 0, 1), (9, .getfield 10, 3), (12, .getfield 134, 3), (15, .invokevirtual 137, 3), (18, .aload_n 0, 1), (19, .getfield 32, 3), (22, .aload_n 0, 1), (23, .getfield 32, 3), (26, .getfield 163, 3), (29, .invokevirtual 171, 3), (32, .istore_n 2, 1), (33, .aload_n 0, 1), (34, .getfield 46, 3), (37, .iload_n 2, 1), (38, .invokevirtual 174, 3), (41, .iload_n 1, 1), (42, .tableswitch 86 0 5 #[38, 46, 57, 62, 70, 78], 38), (80, .aload_n 0, 1), (81, .getfield 10, 3), (84, .getfield 203, 3), (87, .ireturn, 1), (88, .aload_n 0, 1), (89, .getfield 32, 3), (92, .getfield 163, 3), (95, .invokestatic 166, 3), (98, .ireturn, 1), (99, .iload_n 2, 1), (100, .invokestatic 166, 3), (103, .ireturn, 1), (104, .aload_n 0, 1), (105, .getfield 32, 3), (108, .invokevirtual 354, 3), (111, .ireturn, 1), (112, .aload_n 0, 1), (113, .getfield 46, 3), (116, .getfield 357, 3), (119, .ireturn, 1), (120, .aload_n 0, 1), (121, .getfield 46, 3), (124, .invokevirtual 358, 3), (127, .ireturn, 1), (128, .aload_n 0, 1), (129, .invokevirtual 323, 3), (132, .ireturn, 1)]
set_option maxRecDepth 20000 in
theorem DX9_sightAccount : Tab cX9_sightAccount tX9_sightAccount = true := by decide +kernel
def tX9_putMarked : List (Nat × Instr × Nat) := [(0, .aload_n 0, 1), (1, .getfield 67, 3), (4, .iload_n 1, 1), (5, .invokevirtual 235, 3), (8, .aload_n 0, 1), (9, .getfield 67, 3), (12, .iload_n 2, 1), (13, .invokevirtual 229, 3), (16, .return_, 1)]
set_option maxRecDepth 20000 in
theorem DX9_putMarked : Tab cX9_putMarked tX9_putMarked = true := by decide +kernel
def tX9_signFor : List (Nat × Instr × Nat) := [(0, .iload_n 0, 1), (1, .ifCond .ne 6, 3), (4, .bipush 46, 2), (6, .ireturn, 1), (7, .iload_n 0, 1), (8, .bipush 9, 2), (10, .if_icmp .le 8, 3), (13, .bipush 43, 2), (15, .goto 7, 3), (18, .bipush 48, 2), (20, .iload_n 0, 1), (21, .iadd, 1), (22, .ireturn, 1)]
set_option maxRecDepth 20000 in
theorem DX9_signFor : Tab cX9_signFor tX9_signFor = true := by decide +kernel
def tX9_isStone : List (Nat × Instr × Nat) := [(0, .iload_n 0, 1), (1, .ifCond .lt 13, 3), (4, .iload_n 0, 1), (5, .bipush 24, 2), (7, .if_icmp .ge 7, 3), (10, .iconst 1, 1), (11, .goto 4, 3), (14, .iconst 0, 1), (15, .ireturn, 1)]
set_option maxRecDepth 20000 in
theorem DX9_isStone : Tab cX9_isStone tX9_isStone = true := by decide +kernel
def tX9_isReach : List (Nat × Instr × Nat) := [(0, .iload_n 0, 1), (1, .ifCond .lt 13, 3), (4, .iload_n 0, 1), (5, .bipush 11, 2), (7, .if_icmp .gt 7, 3), (10, .iconst 1, 1), (11, .goto 4, 3), (14, .iconst 0, 1), (15, .ireturn, 1)]
set_option maxRecDepth 20000 in
theorem DX9_isReach : Tab cX9_isReach tX9_isReach = true := by decide +kernel
def tX9_isHour : List (Nat × Instr × Nat) := [(0, .iload_n 0, 1), (1, .ifCond .lt 13, 3), (4, .iload_n 0, 1), (5, .bipush 11, 2), (7, .if_icmp .gt 7, 3), (10, .iconst 1, 1), (11, .goto 4, 3), (14, .iconst 0, 1), (15, .ireturn, 1)]
set_option maxRecDepth 20000 in
theorem DX9_isHour : Tab cX9_isHour tX9_isHour = true := by decide +kernel
def tX9_isIn : List (Nat × Instr × Nat) := [(0, .iload_n 0, 1), (1, .iload_n 1, 1), (2, .iushr, 1), (3, .iconst 1, 1), (4, .iand, 1), (5, .iconst 1, 1), (6, .if_icmp .ne 7, 3), (9, .iconst 1, 1), (10, .goto 4, 3), (13, .iconst 0, 1), (14, .ireturn, 1)]
set_option maxRecDepth 20000 in
theorem DX9_isIn : Tab cX9_isIn tX9_isIn = true := by decide +kernel
def tX9_turned : List (Nat × Instr × Nat) := [(0, .iload_n 0, 1), (1, .iload_n 1, 1), (2, .ishl, 1), (3, .iload_n 0, 1), (4, .bipush 24, 2), (6, .iload_n 1, 1), (7, .isub, 1), (8, .iushr, 1), (9, .ior, 1), (10, .ldc 206, 2), (12, .iand, 1), (13, .ireturn, 1)]
set_option maxRecDepth 20000 in
theorem DX9_turned : Tab cX9_turned tX9_turned = true := by decide +kernel
def tX9_stretch : List (Nat × Instr × Nat) := [(0, .lconst 1, 1), (1, .iload_n 1, 1), (2, .lshl, 1), (3, .lconst 1, 1), (4, .lsub, 1), (5, .iload_n 0, 1), (6, .lshl, 1), (7, .lstore_n 2, 1), (8, .lload_n 2, 1), (9, .lload_n 2, 1), (10, .bipush 24, 2), (12, .lushr, 1), (13, .lor, 1), (14, .ldc2_w 361, 3), (17, .land, 1), (18, .l2i, 1), (19, .ireturn, 1)]
set_option maxRecDepth 20000 in
theorem DX9_stretch : Tab cX9_stretch tX9_stretch = true := by decide +kernel
def tX9_bitsOf : List (Nat × Instr × Nat) := [(0, .fload_n 0, 1), (1, .fconst 0, 1), (2, .fcmp .l, 1), (3, .ifCond .gt 5, 3), (6, .iconst 0, 1), (7, .ireturn, 1), (8, .fload_n 0, 1), (9, .fstore_n 1, 1), (10, .bipush 127, 2), (12, .istore_n 2, 1), (13, .iconst 0, 1), (14, .istore_n 3, 1), (15, .iload_n 3, 1), (16, .bipush 127, 2), (18, .if_icmp .ge 22, 3), (21, .fload_n 1, 1), (22, .fconst 2, 1), (23, .fcmp .l, 1), (24, .ifCond .lt 16, 3), (27, .fload_n 1, 1), (28, .fconst 2, 1), (29, .fdiv, 1), (30, .fstore_n 1, 1), (31, .iinc 2 1, 3), (34, .iinc 3 1, 3), (37, .goto (-22), 3), (40, .iconst 0, 1), (41, .istore_n 3, 1), (42, .iload_n 3, 1), (43, .bipush 126, 2), (45, .if_icmp .ge 22, 3), (48, .fload_n 1, 1), (49, .fconst 1, 1), (50, .fcmp .g, 1), (51, .ifCond .ge 16, 3), (54, .fload_n 1, 1), (55, .fconst 2, 1), (56, .fmul, 1), (57, .fstore_n 1, 1), (58, .iinc 2 (-1), 3), (61, .iinc 3 1, 3), (64, .goto (-22), 3), (67, .iload_n 2, 1), (68, .bipush 23, 2), (70, .ishl, 1), (71, .fload_n 1, 1), (72, .fconst 1, 1), (73, .fsub, 1), (74, .ldc_w 363, 3), (77, .fmul, 1), (78, .f2i, 1), (79, .ior, 1), (80, .ireturn, 1)]
set_option maxRecDepth 20000 in
theorem DX9_bitsOf : Tab cX9_bitsOf tX9_bitsOf = true := by decide +kernel
def tX10_init : List (Nat × Instr × Nat) := [(0, .aload_n 0, 1), (1, .invokespecial 3, 3), (4, .aload_n 0, 1), (5, .bipush 59, 2), (7, .newarray .int, 2), (9, .putfield 9, 3), (12, .aload_n 0, 1), (13, .bipush 59, 2), (15, .newarray .int, 2), (17, .putfield 13, 3), (20, .aload_n 0, 1), (21, .bipush 59, 2), (23, .newarray .int, 2), (25, .putfield 16, 3), (28, .aload_n 0, 1), (29, .sipush 472, 3), (32, .newarray .int, 2), (34, .putfield 19, 3), (37, .aload_n 0, 1), (38, .bipush (-4), 2), (40, .putfield 22, 3), (43, .aload_n 0, 1), (44, .bipush 24, 2), (46, .newarray .int, 2), (48, .putfield 26, 3), (51, .aload_n 0, 1), (52, .bipush 70, 2), (54, .newarray .int, 2), (56, .putfield 29, 3), (59, .aload_n 0, 1), (60, .sipush 144, 3), (63, .newarray .int, 2), (65, .putfield 32, 3), (68, .return_, 1)]
set_option maxRecDepth 20000 in
theorem DX10_init : Tab cX10_init tX10_init = true := by decide +kernel
def tX10_isIn : List (Nat × Instr × Nat) := [(0, .iload_n 0, 1), (1, .iload_n 1, 1), (2, .if_icmp .lt 12, 3), (5, .iload_n 0, 1), (6, .iload_n 2, 1), (7, .if_icmp .gt 7, 3), (10, .iconst 1, 1), (11, .goto 4, 3), (14, .iconst 0, 1), (15, .ireturn, 1)]
set_option maxRecDepth 20000 in
theorem DX10_isIn : Tab cX10_isIn tX10_isIn = true := by decide +kernel
def tX10_greater : List (Nat × Instr × Nat) := [(0, .iload_n 0, 1), (1, .iload_n 1, 1), (2, .if_icmp .le 7, 3), (5, .iload_n 0, 1), (6, .goto 4, 3), (9, .iload_n 1, 1), (10, .ireturn, 1)]
set_option maxRecDepth 20000 in
theorem DX10_greater : Tab cX10_greater tX10_greater = true := by decide +kernel
def tX10_has : List (Nat × Instr × Nat) := [(0, .iload_n 0, 1), (1, .iload_n 1, 1), (2, .ishr, 1), (3, .iconst 1, 1), (4, .iand, 1), (5, .iconst 1, 1), (6, .if_icmp .ne 7, 3), (9, .iconst 1, 1), (10, .goto 4, 3), (13, .iconst 0, 1), (14, .ireturn, 1)]
set_option maxRecDepth 20000 in
theorem DX10_has : Tab cX10_has tX10_has = true := by decide +kernel
def tX10_bits : List (Nat × Instr × Nat) := [(0, .iconst 0, 1), (1, .istore_n 1, 1), (2, .iconst 0, 1), (3, .istore_n 2, 1), (4, .iload_n 2, 1), (5, .bipush 24, 2), (7, .if_icmp .ge 17, 3), (10, .iload_n 1, 1), (11, .iload_n 0, 1), (12, .iload_n 2, 1), (13, .ishr, 1), (14, .iconst 1, 1), (15, .iand, 1), (16, .iadd, 1), (17, .istore_n 1, 1), (18, .iinc 2 1, 3), (21, .goto (-17), 3), (24, .iload_n 1, 1), (25, .ireturn, 1)]
set_option maxRecDepth 20000 in
theorem DX10_bits : Tab cX10_bits tX10_bits = true := by decide +kernel
def tX10_copies : List (Nat × Instr × Nat) := [(0, .iconst 0, 1), (1, .istore 4, 2), (3, .iload 4, 2), (5, .bipush 59, 2), (7, .if_icmp .ge 21, 3), (10, .aload_n 2, 1), (11, .iload_n 3, 1), (12, .iload 4, 2), (14, .iadd, 1), (15, .aload_n 0, 1), (16, .iload_n 1, 1), (17, .iload 4, 2), (19, .iadd, 1), (20, .iaload, 1), (21, .iastore, 1), (22, .iinc 4 1, 3), (25, .goto (-22), 3), (28, .return_, 1)]
set_option maxRecDepth 20000 in
theorem DX10_copies : Tab cX10_copies tX10_copies = true := by decide +kernel
def tX10_keeps : List (Nat × Instr × Nat) := [(0, .aload_n 0, 1), (1, .getfield 9, 3), (4, .iconst 0, 1), (5, .aload_n 0, 1), (6, .getfield 13, 3), (9, .iconst 0, 1), (10, .invokestatic 35, 3), (13, .return_, 1)]
set_option maxRecDepth 20000 in
theorem DX10_keeps : Tab cX10_keeps tX10_keeps = true := by decide +kernel
def tX10_changed : List (Nat × Instr × Nat) := [(0, .aload_n 0, 1), (1, .getfield 39, 3), (4, .bipush 8, 2), (6, .if_icmp .ne 48, 3), (9, .iconst 1, 1), (10, .istore_n 1, 1), (11, .iload_n 1, 1), (12, .bipush 8, 2), (14, .if_icmp .ge 30, 3), (17, .aload_n 0, 1), (18, .getfield 19, 3), (21, .bipush 59, 2), (23, .iload_n 1, 1), (24, .imul, 1), (25, .aload_n 0, 1), (26, .getfield 19, 3), (29, .bipush 59, 2), (31, .iload_n 1, 1), (32, .iconst 1, 1), (33, .isub, 1), (34, .imul, 1), (35, .invokestatic 35, 3), (38, .iinc 1 1, 3), (41, .goto (-30), 3), (44, .aload_n 0, 1), (45, .dup, 1), (46, .getfield 39, 3), (49, .iconst 1, 1), (50, .isub, 1), (51, .putfield 39, 3), (54, .aload_n 0, 1), (55, .getfield 13, 3), (58, .iconst 0, 1), (59, .aload_n 0, 1), (60, .getfield 19, 3), (63, .bipush 59, 2), (65, .aload_n 0, 1), (66, .getfield 39, 3), (69, .imul, 1), (70, .invokestatic 35, 3), (73, .aload_n 0, 1), (74, .dup, 1), (75, .getfield 39, 3), (78, .iconst 1, 1), (79, .iadd, 1), (80, .putfield 39, 3), (83, .return_, 1)]
set_option maxRecDepth 20000 in
theorem DX10_changed : Tab cX10_changed tX10_changed = true := by decide +kernel
def tX10_ends : List (Nat × Instr × Nat) := [(0, .iload_n 1, 1), (1, .ifCond .lt 7, 3), (4, .aload_n 0, 1), (5, .invokevirtual 42, 3), (8, .iload_n 1, 1), (9, .ireturn, 1)]
set_option maxRecDepth 20000 in
theorem DX10_ends : Tab cX10_ends tX10_ends = true := by decide +kernel
def tX10_isRefused : List (Nat × Instr × Nat) := [(0, .iload_n 1, 1), (1, .ifCond .eq 19, 3), (4, .aload_n 0, 1), (5, .iload_n 2, 1), (6, .putfield 45, 3), (9, .aload_n 0, 1), (10, .iload_n 3, 1), (11, .putfield 48, 3), (14, .aload_n 0, 1), (15, .bipush (-4), 2), (17, .putfield 22, 3), (20, .iload_n 1, 1), (21, .ireturn, 1)]
set_option maxRecDepth 20000 in
theorem DX10_isRefused : Tab cX10_isRefused tX10_isRefused = true := by decide +kernel
def tX10_of : List (Nat × Instr × Nat) := [(0, .aload_n 0, 1), (1, .getfield 9, 3), (4, .iconst 5, 1), (5, .bipush 6, 2), (7, .iload_n 1, 1), (8, .imul, 1), (9, .iadd, 1), (10, .iload_n 2, 1), (11, .iadd, 1), (12, .iaload, 1), (13, .ireturn, 1)]
set_option maxRecDepth 20000 in
theorem DX10_of : Tab cX10_of tX10_of = true := by decide +kernel
def tX10_sets : List (Nat × Instr × Nat) := [(0, .aload_n 0, 1), (1, .getfield 9, 3), (4, .iconst 5, 1), (5, .bipush 6, 2), (7, .iload_n 1, 1), (8, .imul, 1), (9, .iadd, 1), (10, .iload_n 2, 1), (11, .iadd, 1), (12, .iload_n 3, 1), (13, .iastore, 1), (14, .return_, 1)]
set_option maxRecDepth 20000 in
theorem DX10_sets : Tab cX10_sets tX10_sets = true := by decide +kernel
def tX10_isPost : List (Nat × Instr × Nat) := [(0, .iload_n 1, 1), (1, .iconst 0, 1), (2, .aload_n 0, 1), (3, .getfield 9, 3), (6, .iconst 0, 1), (7, .iaload, 1), (8, .iconst 1, 1), (9, .isub, 1), (10, .invokestatic 51, 3), (13, .ireturn, 1)]
set_option maxRecDepth 20000 in
theorem DX10_isPost : Tab cX10_isPost tX10_isPost = true := by decide +kernel
def tX10_isStone : List (Nat × Instr × Nat) := [(0, .iload_n 0, 1), (1, .iconst 0, 1), (2, .bipush 23, 2), (4, .invokestatic 51, 3), (7, .ireturn, 1)]
set_option maxRecDepth 20000 in
theorem DX10_isStone : Tab cX10_isStone tX10_isStone = true := by decide +kernel
def tX10_isReach : List (Nat × Instr × Nat) := [(0, .iload_n 0, 1), (1, .iconst 0, 1), (2, .bipush 11, 2), (4, .invokestatic 51, 3), (7, .ireturn, 1)]
set_option maxRecDepth 20000 in
theorem DX10_isReach : Tab cX10_isReach tX10_isReach = true := by decide +kernel
def tX10_isHour : List (Nat × Instr × Nat) := [(0, .iload_n 0, 1), (1, .iconst 0, 1), (2, .bipush 11, 2), (4, .invokestatic 51, 3), (7, .ireturn, 1)]
set_option maxRecDepth 20000 in
theorem DX10_isHour : Tab cX10_isHour tX10_isHour = true := by decide +kernel
def tX10_isManned : List (Nat × Instr × Nat) := [(0, .aload_n 0, 1), (1, .iload_n 1, 1), (2, .iconst 5, 1), (3, .invokevirtual 55, 3), (6, .iconst 1, 1), (7, .if_icmp .ne 7, 3), (10, .iconst 1, 1), (11, .goto 4, 3), (14, .iconst 0, 1), (15, .ireturn, 1)]
set_option maxRecDepth 20000 in
theorem DX10_isManned : Tab cX10_isManned tX10_isManned = true := by decide +kernel
def tX10_less : List (Nat × Instr × Nat) := [(0, .iload_n 0, 1), (1, .bipush 6, 2), (3, .if_icmp .ge 7, 3), (6, .iconst 0, 1), (7, .goto 24, 3), (10, .iload_n 0, 1), (11, .bipush 8, 2), (13, .if_icmp .ge 7, 3), (16, .iconst 1, 1), (17, .goto 14, 3), (20, .iload_n 0, 1), (21, .bipush 10, 2), (23, .if_icmp .ge 7, 3), (26, .iconst 2, 1), (27, .goto 4, 3), (30, .iconst 3, 1), (31, .ireturn, 1)]
set_option maxRecDepth 20000 in
theorem DX10_less : Tab cX10_less tX10_less = true := by decide +kernel
def tX10_sightIn : List (Nat × Instr × Nat) := [(0, .iconst 0, 1), (1, .aload_n 0, 1), (2, .iload_n 1, 1), (3, .iconst 1, 1), (4, .invokevirtual 55, 3), (7, .iload_n 2, 1), (8, .invokestatic 59, 3), (11, .isub, 1), (12, .invokestatic 63, 3), (15, .istore_n 3, 1), (16, .iconst 0, 1), (17, .aload_n 0, 1), (18, .iload_n 1, 1), (19, .iconst 2, 1), (20, .invokevirtual 55, 3), (23, .iload_n 2, 1), (24, .invokestatic 59, 3), (27, .isub, 1), (28, .invokestatic 63, 3), (31, .istore 4, 2), (33, .iconst 0, 1), (34, .istore 5, 2), (36, .iload_n 3, 1), (37, .ineg, 1), (38, .istore 6, 2), (40, .iload 6, 2), (42, .iload 4, 2), (44, .if_icmp .gt 31, 3), (47, .iload 5, 2), (49, .iconst 1, 1), (50, .aload_n 0, 1), (51, .iload_n 1, 1), (52, .iconst 0, 1), (53, .invokevirtual 55, 3), (56, .iload 6, 2), (58, .iadd, 1), (59, .bipush 24, 2), (61, .iadd, 1), (62, .bipush 24, 2), (64, .irem, 1), (65, .ishl, 1), (66, .ior, 1), (67, .istore 5, 2), (69, .iinc 6 1, 3), (72, .goto (-32), 3), (75, .iconst 0, 1), (76, .istore 6, 2), (78, .iload 6, 2), (80, .aload_n 0, 1), (81, .iload_n 1, 1), (82, .iconst 4, 1), (83, .invokevirtual 55, 3), (86, .if_icmp .ge 30, 3), (89, .iload 5, 2), (91, .iconst 1, 1), (92, .aload_n 0, 1), (93, .iload_n 1, 1), (94, .iconst 3, 1), (95, .invokevirtual 55, 3), (98, .iload 6, 2), (100, .iadd, 1), (101, .bipush 24, 2), (103, .irem, 1), (104, .ishl, 1), (105, .iconst (-1), 1), (106, .ixor, 1), (107, .iand, 1), (108, .istore 5, 2), (110, .iinc 6 1, 3), (113, .goto (-35), 3), (116, .iload 5, 2), (118, .ireturn, 1)]
set_option maxRecDepth 20000 in
theorem DX10_sightIn : Tab cX10_sightIn tX10_sightIn = true := by decide +kernel
def tX10_sight : List (Nat × Instr × Nat) := [(0, .aload_n 0, 1), (1, .iload_n 1, 1), (2, .aload_n 0, 1), (3, .getfield 9, 3), (6, .iconst 1, 1), (7, .iaload, 1), (8, .invokevirtual 66, 3), (11, .ireturn, 1)]
set_option maxRecDepth 20000 in
theorem DX10_sight : Tab cX10_sight tX10_sight = true := by decide +kernel
def tX10_mannedSet : List (Nat × Instr × Nat) := [(0, .iconst 0, 1), (1, .istore_n 1, 1), (2, .iconst 0, 1), (3, .istore_n 2, 1), (4, .iload_n 2, 1), (5, .aload_n 0, 1), (6, .getfield 9, 3), (9, .iconst 0, 1), (10, .iaload, 1), (11, .if_icmp .ge 27, 3), (14, .iload_n 1, 1), (15, .aload_n 0, 1), (16, .iload_n 2, 1), (17, .invokevirtual 69, 3), (20, .ifCond .eq 9, 3), (23, .iconst 1, 1), (24, .iload_n 2, 1), (25, .ishl, 1), (26, .goto 4, 3), (29, .iconst 0, 1), (30, .ior, 1), (31, .istore_n 1, 1), (32, .iinc 2 1, 3), (35, .goto (-31), 3), (38, .iload_n 1, 1), (39, .ireturn, 1)]
set_option maxRecDepth 20000 in
theorem DX10_mannedSet : Tab cX10_mannedSet tX10_mannedSet = true := by decide +kernel
def tX10_seenIn : List (Nat × Instr × Nat) := [(0, .iconst 0, 1), (1, .istore_n 3, 1), (2, .iconst 0, 1), (3, .istore 4, 2), (5, .iload 4, 2), (7, .aload_n 0, 1), (8, .getfield 9, 3), (11, .iconst 0, 1), (12, .iaload, 1), (13, .if_icmp .ge 32, 3), (16, .iload_n 3, 1), (17, .iload_n 1, 1), (18, .iload 4, 2), (20, .invokestatic 73, 3), (23, .ifCond .eq 13, 3), (26, .aload_n 0, 1), (27, .iload 4, 2), (29, .iload_n 2, 1), (30, .invokevirtual 66, 3), (33, .goto 4, 3), (36, .iconst 0, 1), (37, .ior, 1), (38, .istore_n 3, 1), (39, .iinc 4 1, 3), (42, .goto (-37), 3), (45, .iload_n 3, 1), (46, .ireturn, 1)]
set_option maxRecDepth 20000 in
theorem DX10_seenIn : Tab cX10_seenIn tX10_seenIn = true := by decide +kernel
def tX10_seen : List (Nat × Instr × Nat) := [(0, .aload_n 0, 1), (1, .iload_n 1, 1), (2, .aload_n 0, 1), (3, .getfield 9, 3), (6, .iconst 1, 1), (7, .iaload, 1), (8, .invokevirtual 77, 3), (11, .ireturn, 1)]
set_option maxRecDepth 20000 in
theorem DX10_seen : Tab cX10_seen tX10_seen = true := by decide +kernel
def tX10_all : List (Nat × Instr × Nat) := [(0, .iconst 1, 1), (1, .aload_n 0, 1), (2, .getfield 9, 3), (5, .iconst 0, 1), (6, .iaload, 1), (7, .ishl, 1), (8, .iconst 1, 1), (9, .isub, 1), (10, .ireturn, 1)]
set_option maxRecDepth 20000 in
theorem DX10_all : Tab cX10_all tX10_all = true := by decide +kernel
def tX10_postOn : List (Nat × Instr × Nat) := [(0, .iconst 0, 1), (1, .istore_n 2, 1), (2, .iload_n 2, 1), (3, .aload_n 0, 1), (4, .getfield 9, 3), (7, .iconst 0, 1), (8, .iaload, 1), (9, .if_icmp .ge 21, 3), (12, .aload_n 0, 1), (13, .iload_n 2, 1), (14, .iconst 0, 1), (15, .invokevirtual 55, 3), (18, .iload_n 1, 1), (19, .if_icmp .ne 5, 3), (22, .iload_n 2, 1), (23, .ireturn, 1), (24, .iinc 2 1, 3), (27, .goto (-25), 3), (30, .iconst (-1), 1), (31, .ireturn, 1)]
set_option maxRecDepth 20000 in
theorem DX10_postOn : Tab cX10_postOn tX10_postOn = true := by decide +kernel
def tX10_builds : List (Nat × Instr × Nat) := [(0, .iload_n 1, 1), (1, .invokestatic 80, 3), (4, .ifCond .ne 5, 3), (7, .iconst (-1), 1), (8, .ireturn, 1), (9, .iload_n 2, 1), (10, .invokestatic 83, 3), (13, .ifCond .eq 10, 3), (16, .iload_n 3, 1), (17, .invokestatic 83, 3), (20, .ifCond .ne 6, 3), (23, .bipush (-2), 2), (25, .ireturn, 1), (26, .aload_n 0, 1), (27, .iload_n 1, 1), (28, .invokevirtual 86, 3), (31, .istore 4, 2), (33, .aload_n 0, 1), (34, .iload 4, 2), (36, .iconst (-1), 1), (37, .if_icmp .eq 7, 3), (40, .iconst 1, 1), (41, .goto 4, 3), (44, .iconst 0, 1), (45, .iconst 2, 1), (46, .iload 4, 2), (48, .invokevirtual 89, 3), (51, .ifCond .ne 29, 3), (54, .aload_n 0, 1), (55, .aload_n 0, 1), (56, .getfield 9, 3), (59, .iconst 0, 1), (60, .iaload, 1), (61, .bipush 9, 2), (63, .if_icmp .ne 7, 3), (66, .iconst 1, 1), (67, .goto 4, 3), (70, .iconst 0, 1), (71, .iconst 1, 1), (72, .bipush 9, 2), (74, .invokevirtual 89, 3), (77, .ifCond .eq 6, 3), (80, .bipush (-3), 2), (82, .ireturn, 1), (83, .aload_n 0, 1), (84, .getfield 9, 3), (87, .iconst 0, 1), (88, .iaload, 1), (89, .istore 5, 2), (91, .aload_n 0, 1), (92, .iload 5, 2), (94, .iconst 0, 1), (95, .iload_n 1, 1), (96, .invokevirtual 93, 3), (99, .aload_n 0, 1), (100, .iload 5, 2), (102, .iconst 1, 1), (103, .iload_n 2, 1), (104, .invokevirtual 93, 3), (107, .aload_n 0, 1), (108, .iload 5, 2), (110, .iconst 2, 1), (111, .iload_n 3, 1), (112, .invokevirtual 93, 3), (115, .aload_n 0, 1), (116, .iload 5, 2), (118, .iconst 3, 1), (119, .iconst (-1), 1), (120, .invokevirtual 93, 3), (123, .aload_n 0, 1), (124, .iload 5, 2), (126, .iconst 4, 1), (127, .iconst 0, 1), (128, .invokevirtual 93, 3), (131, .aload_n 0, 1), (132, .iload 5, 2), (134, .iconst 5, 1), (135, .iconst 0, 1), (136, .invokevirtual 93, 3), (139, .aload_n 0, 1), (140, .getfield 9, 3), (143, .iconst 0, 1), (144, .dup2, 1), (145, .iaload, 1), (146, .iconst 1, 1), (147, .iadd, 1), (148, .iastore, 1), (149, .aload_n 0, 1), (150, .getfield 9, 3), (153, .iconst 2, 1), (154, .dup2, 1), (155, .iaload, 1), (156, .iconst 1, 1), (157, .iadd, 1), (158, .iastore, 1), (159, .iload 5, 2), (161, .ireturn, 1)]
set_option maxRecDepth 20000 in
theorem DX10_builds : Tab cX10_builds tX10_builds = true := by decide +kernel
def tX10_post : List (Nat × Instr × Nat) := [(0, .aload_n 0, 1), (1, .invokevirtual 97, 3), (4, .aload_n 0, 1), (5, .aload_n 0, 1), (6, .iload_n 1, 1), (7, .iload_n 2, 1), (8, .iload_n 3, 1), (9, .invokevirtual 100, 3), (12, .invokevirtual 104, 3), (15, .ireturn, 1)]
set_option maxRecDepth 20000 in
theorem DX10_post : Tab cX10_post tX10_post = true := by decide +kernel
def tX10_tears : List (Nat × Instr × Nat) := [(0, .aload_n 0, 1), (1, .iload_n 1, 1), (2, .invokevirtual 107, 3), (5, .ifCond .ne 5, 3), (8, .iconst (-1), 1), (9, .ireturn, 1), (10, .iconst 5, 1), (11, .bipush 6, 2), (13, .iload_n 1, 1), (14, .imul, 1), (15, .iadd, 1), (16, .istore_n 2, 1), (17, .iload_n 2, 1), (18, .bipush 53, 2), (20, .if_icmp .ge 24, 3), (23, .aload_n 0, 1), (24, .getfield 9, 3), (27, .iload_n 2, 1), (28, .aload_n 0, 1), (29, .getfield 9, 3), (32, .iload_n 2, 1), (33, .bipush 6, 2), (35, .iadd, 1), (36, .iaload, 1), (37, .iastore, 1), (38, .iinc 2 1, 3), (41, .goto (-24), 3), (44, .bipush 53, 2), (46, .istore_n 2, 1), (47, .iload_n 2, 1), (48, .bipush 59, 2), (50, .if_icmp .ge 16, 3), (53, .aload_n 0, 1), (54, .getfield 9, 3), (57, .iload_n 2, 1), (58, .iconst 0, 1), (59, .iastore, 1), (60, .iinc 2 1, 3), (63, .goto (-16), 3), (66, .aload_n 0, 1), (67, .getfield 9, 3), (70, .iconst 0, 1), (71, .dup2, 1), (72, .iaload, 1), (73, .iconst 1, 1), (74, .isub, 1), (75, .iastore, 1), (76, .aload_n 0, 1), (77, .getfield 9, 3), (80, .iconst 3, 1), (81, .dup2, 1), (82, .iaload, 1), (83, .iconst 1, 1), (84, .iadd, 1), (85, .iastore, 1), (86, .aload_n 0, 1), (87, .getfield 9, 3), (90, .iconst 0, 1), (91, .iaload, 1), (92, .ireturn, 1)]
set_option maxRecDepth 20000 in
theorem DX10_tears : Tab cX10_tears tX10_tears = true := by decide +kernel
def tX10_tear : List (Nat × Instr × Nat) := [(0, .aload_n 0, 1), (1, .invokevirtual 97, 3), (4, .aload_n 0, 1), (5, .aload_n 0, 1), (6, .iload_n 1, 1), (7, .invokevirtual 110, 3), (10, .invokevirtual 104, 3), (13, .ireturn, 1)]
set_option maxRecDepth 20000 in
theorem DX10_tear : Tab cX10_tear tX10_tear = true := by decide +kernel
def tX10_reaches : List (Nat × Instr × Nat) := [(0, .aload_n 0, 1), (1, .iload_n 1, 1), (2, .invokevirtual 107, 3), (5, .ifCond .ne 5, 3), (8, .iconst (-1), 1), (9, .ireturn, 1), (10, .iload_n 2, 1), (11, .invokestatic 83, 3), (14, .ifCond .eq 10, 3), (17, .iload_n 3, 1), (18, .invokestatic 83, 3), (21, .ifCond .ne 6, 3), (24, .bipush (-2), 2), (26, .ireturn, 1), (27, .bipush 100, 2), (29, .aload_n 0, 1), (30, .iload_n 1, 1), (31, .iconst 1, 1), (32, .invokevirtual 55, 3), (35, .imul, 1), (36, .aload_n 0, 1), (37, .iload_n 1, 1), (38, .iconst 2, 1), (39, .invokevirtual 55, 3), (42, .iadd, 1), (43, .istore 4, 2), (45, .aload_n 0, 1), (46, .iload 4, 2), (48, .bipush 100, 2), (50, .iload_n 2, 1), (51, .imul, 1), (52, .iload_n 3, 1), (53, .iadd, 1), (54, .if_icmp .ne 7, 3), (57, .iconst 1, 1), (58, .goto 4, 3), (61, .iconst 0, 1), (62, .iconst 3, 1), (63, .iload_n 2, 1), (64, .invokevirtual 89, 3), (67, .ifCond .eq 6, 3), (70, .bipush (-3), 2), (72, .ireturn, 1), (73, .aload_n 0, 1), (74, .iload_n 1, 1), (75, .iconst 1, 1), (76, .iload_n 2, 1), (77, .invokevirtual 93, 3), (80, .aload_n 0, 1), (81, .iload_n 1, 1), (82, .iconst 2, 1), (83, .iload_n 3, 1), (84, .invokevirtual 93, 3), (87, .iload 4, 2), (89, .ireturn, 1)]
set_option maxRecDepth 20000 in
theorem DX10_reaches : Tab cX10_reaches tX10_reaches = true := by decide +kernel
def tX10_reach : List (Nat × Instr × Nat) := [(0, .aload_n 0, 1), (1, .invokevirtual 97, 3), (4, .aload_n 0, 1), (5, .aload_n 0, 1), (6, .iload_n 1, 1), (7, .iload_n 2, 1), (8, .iload_n 3, 1), (9, .invokevirtual 113, 3), (12, .invokevirtual 104, 3), (15, .ireturn, 1)]
set_option maxRecDepth 20000 in
theorem DX10_reach : Tab cX10_reach tX10_reach = true := by decide +kernel
def tX10_blinds : List (Nat × Instr × Nat) := [(0, .aload_n 0, 1), (1, .iload_n 1, 1), (2, .invokevirtual 107, 3), (5, .ifCond .eq 10, 3), (8, .iload_n 2, 1), (9, .invokestatic 80, 3), (12, .ifCond .ne 5, 3), (15, .iconst (-1), 1), (16, .ireturn, 1), (17, .iload_n 3, 1), (18, .iconst 1, 1), (19, .bipush 8, 2), (21, .invokestatic 51, 3), (24, .ifCond .ne 6, 3), (27, .bipush (-2), 2), (29, .ireturn, 1), (30, .aload_n 0, 1), (31, .aload_n 0, 1), (32, .iload_n 1, 1), (33, .iconst 3, 1), (34, .invokevirtual 55, 3), (37, .iload_n 2, 1), (38, .if_icmp .ne 17, 3), (41, .aload_n 0, 1), (42, .iload_n 1, 1), (43, .iconst 4, 1), (44, .invokevirtual 55, 3), (47, .iload_n 3, 1), (48, .if_icmp .ne 7, 3), (51, .iconst 1, 1), (52, .goto 4, 3), (55, .iconst 0, 1), (56, .iconst 3, 1), (57, .iload_n 2, 1), (58, .invokevirtual 89, 3), (61, .ifCond .eq 6, 3), (64, .bipush (-3), 2), (66, .ireturn, 1), (67, .aload_n 0, 1), (68, .iload_n 1, 1), (69, .iconst 3, 1), (70, .iload_n 2, 1), (71, .invokevirtual 93, 3), (74, .aload_n 0, 1), (75, .iload_n 1, 1), (76, .iconst 4, 1), (77, .iload_n 3, 1), (78, .invokevirtual 93, 3), (81, .aload_n 0, 1), (82, .iload_n 1, 1), (83, .invokevirtual 116, 3), (86, .invokestatic 119, 3), (89, .ireturn, 1)]
set_option maxRecDepth 20000 in
theorem DX10_blinds : Tab cX10_blinds tX10_blinds = true := by decide +kernel
def tX10_blind : List (Nat × Instr × Nat) := [(0, .aload_n 0, 1), (1, .invokevirtual 97, 3), (4, .aload_n 0, 1), (5, .aload_n 0, 1), (6, .iload_n 1, 1), (7, .iload_n 2, 1), (8, .iload_n 3, 1), (9, .invokevirtual 122, 3), (12, .invokevirtual 104, 3), (15, .ireturn, 1)]
set_option maxRecDepth 20000 in
theorem DX10_blind : Tab cX10_blind tX10_blind = true := by decide +kernel
def tX10_lets : List (Nat × Instr × Nat) := [(0, .aload_n 0, 1), (1, .iload_n 1, 1), (2, .invokevirtual 107, 3), (5, .ifCond .ne 5, 3), (8, .iconst (-1), 1), (9, .ireturn, 1), (10, .aload_n 0, 1), (11, .aload_n 0, 1), (12, .iload_n 1, 1), (13, .iconst 4, 1), (14, .invokevirtual 55, 3), (17, .ifCond .ne 7, 3), (20, .iconst 1, 1), (21, .goto 4, 3), (24, .iconst 0, 1), (25, .iconst 5, 1), (26, .iload_n 1, 1), (27, .invokevirtual 89, 3), (30, .ifCond .eq 6, 3), (33, .bipush (-3), 2), (35, .ireturn, 1), (36, .aload_n 0, 1), (37, .iload_n 1, 1), (38, .iconst 3, 1), (39, .iconst (-1), 1), (40, .invokevirtual 93, 3), (43, .aload_n 0, 1), (44, .iload_n 1, 1), (45, .iconst 4, 1), (46, .iconst 0, 1), (47, .invokevirtual 93, 3), (50, .aload_n 0, 1), (51, .iload_n 1, 1), (52, .invokevirtual 116, 3), (55, .invokestatic 119, 3), (58, .ireturn, 1)]
set_option maxRecDepth 20000 in
theorem DX10_lets : Tab cX10_lets tX10_lets = true := by decide +kernel
def tX10_see : List (Nat × Instr × Nat) := [(0, .aload_n 0, 1), (1, .invokevirtual 97, 3), (4, .aload_n 0, 1), (5, .aload_n 0, 1), (6, .iload_n 1, 1), (7, .invokevirtual 125, 3), (10, .invokevirtual 104, 3), (13, .ireturn, 1)]
set_option maxRecDepth 20000 in
theorem DX10_see : Tab cX10_see tX10_see = true := by decide +kernel
def tX10_mans : List (Nat × Instr × Nat) := [(0, .aload_n 0, 1), (1, .iload_n 1, 1), (2, .invokevirtual 107, 3), (5, .ifCond .ne 5, 3), (8, .iconst (-1), 1), (9, .ireturn, 1), (10, .iload_n 2, 1), (11, .iconst 0, 1), (12, .iconst 1, 1), (13, .invokestatic 51, 3), (16, .ifCond .ne 6, 3), (19, .bipush (-2), 2), (21, .ireturn, 1), (22, .aload_n 0, 1), (23, .aload_n 0, 1), (24, .iload_n 1, 1), (25, .iconst 5, 1), (26, .invokevirtual 55, 3), (29, .iload_n 2, 1), (30, .if_icmp .ne 7, 3), (33, .iconst 1, 1), (34, .goto 4, 3), (37, .iconst 0, 1), (38, .iconst 3, 1), (39, .iload_n 2, 1), (40, .invokevirtual 89, 3), (43, .ifCond .eq 6, 3), (46, .bipush (-3), 2), (48, .ireturn, 1), (49, .aload_n 0, 1), (50, .iload_n 1, 1), (51, .iconst 5, 1), (52, .iload_n 2, 1), (53, .invokevirtual 93, 3), (56, .aload_n 0, 1), (57, .aload_n 0, 1), (58, .invokevirtual 128, 3), (61, .invokevirtual 132, 3), (64, .invokestatic 119, 3), (67, .ireturn, 1)]
set_option maxRecDepth 20000 in
theorem DX10_mans : Tab cX10_mans tX10_mans = true := by decide +kernel
def tX10_man : List (Nat × Instr × Nat) := [(0, .aload_n 0, 1), (1, .invokevirtual 97, 3), (4, .aload_n 0, 1), (5, .aload_n 0, 1), (6, .iload_n 1, 1), (7, .iload_n 2, 1), (8, .invokevirtual 135, 3), (11, .invokevirtual 104, 3), (14, .ireturn, 1)]
set_option maxRecDepth 20000 in
theorem DX10_man : Tab cX10_man tX10_man = true := by decide +kernel
def tX10_tellsHour : List (Nat × Instr × Nat) := [(0, .iload_n 1, 1), (1, .invokestatic 138, 3), (4, .ifCond .ne 6, 3), (7, .bipush (-2), 2), (9, .ireturn, 1), (10, .aload_n 0, 1), (11, .getfield 9, 3), (14, .iconst 1, 1), (15, .iaload, 1), (16, .istore_n 2, 1), (17, .aload_n 0, 1), (18, .iload_n 2, 1), (19, .iload_n 1, 1), (20, .if_icmp .ne 7, 3), (23, .iconst 1, 1), (24, .goto 4, 3), (27, .iconst 0, 1), (28, .iconst 3, 1), (29, .iload_n 1, 1), (30, .invokevirtual 89, 3), (33, .ifCond .eq 6, 3), (36, .bipush (-3), 2), (38, .ireturn, 1), (39, .aload_n 0, 1), (40, .getfield 9, 3), (43, .iconst 1, 1), (44, .iload_n 1, 1), (45, .iastore, 1), (46, .iload_n 2, 1), (47, .ireturn, 1)]
set_option maxRecDepth 20000 in
theorem DX10_tellsHour : Tab cX10_tellsHour tX10_tellsHour = true := by decide +kernel
def tX10_hour : List (Nat × Instr × Nat) := [(0, .aload_n 0, 1), (1, .invokevirtual 97, 3), (4, .aload_n 0, 1), (5, .aload_n 0, 1), (6, .iload_n 1, 1), (7, .invokevirtual 141, 3), (10, .invokevirtual 104, 3), (13, .ireturn, 1)]
set_option maxRecDepth 20000 in
theorem DX10_hour : Tab cX10_hour tX10_hour = true := by decide +kernel
def tX10_fewestIn : List (Nat × Instr × Nat) := [(0, .bipush (-4), 2), (2, .istore_n 2, 1), (3, .iconst 0, 1), (4, .istore_n 3, 1), (5, .iload_n 3, 1), (6, .aload_n 0, 1), (7, .invokevirtual 144, 3), (10, .if_icmp .gt 55, 3), (13, .aload_n 0, 1), (14, .iload_n 3, 1), (15, .iload_n 1, 1), (16, .invokevirtual 77, 3), (19, .ldc 147, 2), (21, .if_icmp .ne 7, 3), (24, .iconst 1, 1), (25, .goto 4, 3), (28, .iconst 0, 1), (29, .istore 4, 2), (31, .iload 4, 2), (33, .ifCond .eq 24, 3), (36, .iload_n 2, 1), (37, .bipush (-4), 2), (39, .if_icmp .eq 14, 3), (42, .iload_n 3, 1), (43, .invokestatic 119, 3), (46, .iload_n 2, 1), (47, .invokestatic 119, 3), (50, .if_icmp .ge 7, 3), (53, .iload_n 3, 1), (54, .goto 4, 3), (57, .iload_n 2, 1), (58, .istore_n 2, 1), (59, .iinc 3 1, 3), (62, .goto (-57), 3), (65, .iload_n 2, 1), (66, .ireturn, 1)]
set_option maxRecDepth 20000 in
theorem DX10_fewestIn : Tab cX10_fewestIn tX10_fewestIn = true := by decide +kernel
def tX10_watching : List (Nat × Instr × Nat) := [(0, .aload_n 0, 1), (1, .aload_n 0, 1), (2, .getfield 9, 3), (5, .iconst 1, 1), (6, .iaload, 1), (7, .invokevirtual 148, 3), (10, .istore_n 1, 1), (11, .aload_n 0, 1), (12, .iload_n 1, 1), (13, .bipush (-4), 2), (15, .if_icmp .ne 7, 3), (18, .iconst 1, 1), (19, .goto 4, 3), (22, .iconst 0, 1), (23, .iconst 4, 1), (24, .bipush 24, 2), (26, .aload_n 0, 1), (27, .aload_n 0, 1), (28, .invokevirtual 144, 3), (31, .invokevirtual 132, 3), (34, .invokestatic 119, 3), (37, .isub, 1), (38, .invokevirtual 89, 3), (41, .ifCond .eq 6, 3), (44, .bipush (-3), 2), (46, .ireturn, 1), (47, .iconst 0, 1), (48, .istore_n 2, 1), (49, .iload_n 2, 1), (50, .aload_n 0, 1), (51, .getfield 9, 3), (54, .iconst 0, 1), (55, .iaload, 1), (56, .if_icmp .ge 28, 3), (59, .aload_n 0, 1), (60, .iload_n 2, 1), (61, .iconst 5, 1), (62, .iload_n 1, 1), (63, .iload_n 2, 1), (64, .invokestatic 73, 3), (67, .ifCond .eq 7, 3), (70, .iconst 1, 1), (71, .goto 4, 3), (74, .iconst 0, 1), (75, .invokevirtual 93, 3), (78, .iinc 2 1, 3), (81, .goto (-32), 3), (84, .aload_n 0, 1), (85, .getfield 9, 3), (88, .iconst 4, 1), (89, .dup2, 1), (90, .iaload, 1), (91, .iconst 1, 1), (92, .iadd, 1), (93, .iastore, 1), (94, .iload_n 1, 1), (95, .invokestatic 119, 3), (98, .ireturn, 1)]
set_option maxRecDepth 20000 in
theorem DX10_watching : Tab cX10_watching tX10_watching = true := by decide +kernel
def tX10_watch : List (Nat × Instr × Nat) := [(0, .aload_n 0, 1), (1, .invokevirtual 97, 3), (4, .aload_n 0, 1), (5, .aload_n 0, 1), (6, .invokevirtual 151, 3), (9, .invokevirtual 104, 3), (12, .ireturn, 1)]
set_option maxRecDepth 20000 in
theorem DX10_watch : Tab cX10_watch tX10_watch = true := by decide +kernel
def tX10_fewest : List (Nat × Instr × Nat) := [(0, .aload_n 0, 1), (1, .aload_n 0, 1), (2, .getfield 9, 3), (5, .iconst 1, 1), (6, .iaload, 1), (7, .invokevirtual 148, 3), (10, .ireturn, 1)]
set_option maxRecDepth 20000 in
theorem DX10_fewest : Tab cX10_fewest tX10_fewest = true := by decide +kernel
def tX10_fewestAgain : List (Nat × Instr × Nat) := [(0, .aload_n 0, 1), (1, .aload_n 0, 1), (2, .getfield 9, 3), (5, .iconst 1, 1), (6, .iaload, 1), (7, .invokevirtual 148, 3), (10, .ireturn, 1)]
set_option maxRecDepth 20000 in
theorem DX10_fewestAgain : Tab cX10_fewestAgain tX10_fewestAgain = true := by decide +kernel
def tX10_isFewest : List (Nat × Instr × Nat) := [(0, .iload_n 1, 1), (1, .invokestatic 119, 3), (4, .iload_n 2, 1), (5, .invokestatic 119, 3), (8, .if_icmp .ne 17, 3), (11, .aload_n 0, 1), (12, .iload_n 1, 1), (13, .invokevirtual 132, 3), (16, .ldc 147, 2), (18, .if_icmp .ne 7, 3), (21, .iconst 1, 1), (22, .goto 4, 3), (25, .iconst 0, 1), (26, .ireturn, 1)]
set_option maxRecDepth 20000 in
theorem DX10_isFewest : Tab cX10_isFewest tX10_isFewest = true := by decide +kernel
def tX10_watches : List (Nat × Instr × Nat) := [(0, .aload_n 0, 1), (1, .aload_n 0, 1), (2, .getfield 9, 3), (5, .iconst 1, 1), (6, .iaload, 1), (7, .invokevirtual 148, 3), (10, .istore_n 1, 1), (11, .iconst 0, 1), (12, .istore_n 2, 1), (13, .iconst 0, 1), (14, .istore_n 3, 1), (15, .iload_n 3, 1), (16, .aload_n 0, 1), (17, .invokevirtual 144, 3), (20, .if_icmp .gt 32, 3), (23, .iload_n 1, 1), (24, .bipush (-4), 2), (26, .if_icmp .eq 26, 3), (29, .iload_n 2, 1), (30, .aload_n 0, 1), (31, .iload_n 3, 1), (32, .iload_n 1, 1), (33, .invokevirtual 154, 3), (36, .ifCond .eq 7, 3), (39, .iconst 1, 1), (40, .goto 4, 3), (43, .iconst 0, 1), (44, .iadd, 1), (45, .istore_n 2, 1), (46, .iinc 3 1, 3), (49, .goto (-34), 3), (52, .iload_n 2, 1), (53, .ireturn, 1)]
set_option maxRecDepth 20000 in
theorem DX10_watches : Tab cX10_watches tX10_watches = true := by decide +kernel
def tX10_isNeeded : List (Nat × Instr × Nat) := [(0, .aload_n 0, 1), (1, .aload_n 0, 1), (2, .getfield 9, 3), (5, .iconst 1, 1), (6, .iaload, 1), (7, .invokevirtual 148, 3), (10, .istore_n 2, 1), (11, .iload_n 2, 1), (12, .bipush (-4), 2), (14, .if_icmp .eq 7, 3), (17, .iconst 1, 1), (18, .goto 4, 3), (21, .iconst 0, 1), (22, .istore_n 3, 1), (23, .iconst 0, 1), (24, .istore 4, 2), (26, .iload 4, 2), (28, .aload_n 0, 1), (29, .invokevirtual 144, 3), (32, .if_icmp .gt 38, 3), (35, .iload_n 3, 1), (36, .ifCond .eq 34, 3), (39, .iload 4, 2), (41, .iload_n 1, 1), (42, .invokestatic 73, 3), (45, .ifCond .ne 13, 3), (48, .aload_n 0, 1), (49, .iload 4, 2), (51, .iload_n 2, 1), (52, .invokevirtual 154, 3), (55, .ifCond .ne 7, 3), (58, .iconst 1, 1), (59, .goto 4, 3), (62, .iconst 0, 1), (63, .istore_n 3, 1), (64, .iinc 4 1, 3), (67, .goto (-41), 3), (70, .iload_n 3, 1), (71, .ireturn, 1)]
set_option maxRecDepth 20000 in
theorem DX10_isNeeded : Tab cX10_isNeeded tX10_isNeeded = true := by decide +kernel
def tX10_isFull : List (Nat × Instr × Nat) := [(0, .iload_n 1, 1), (1, .iconst 0, 1), (2, .aload_n 0, 1), (3, .invokevirtual 144, 3), (6, .invokestatic 51, 3), (9, .ifCond .ne 7, 3), (12, .iconst (-1), 1), (13, .goto 18, 3), (16, .aload_n 0, 1), (17, .iload_n 1, 1), (18, .invokevirtual 132, 3), (21, .ldc 147, 2), (23, .if_icmp .ne 7, 3), (26, .iconst 1, 1), (27, .goto 4, 3), (30, .iconst 0, 1), (31, .ireturn, 1)]
set_option maxRecDepth 20000 in
theorem DX10_isFull : Tab cX10_isFull tX10_isFull = true := by decide +kernel
def tX10_spare : List (Nat × Instr × Nat) := [(0, .aload_n 0, 1), (1, .invokevirtual 128, 3), (4, .istore_n 1, 1), (5, .aload_n 0, 1), (6, .iload_n 1, 1), (7, .invokevirtual 132, 3), (10, .istore_n 2, 1), (11, .iconst 0, 1), (12, .istore_n 3, 1), (13, .aload_n 0, 1), (14, .getfield 9, 3), (17, .iconst 0, 1), (18, .iaload, 1), (19, .iconst 1, 1), (20, .isub, 1), (21, .istore 4, 2), (23, .iload 4, 2), (25, .ifCond .lt 54, 3), (28, .iload_n 1, 1), (29, .iload 4, 2), (31, .invokestatic 73, 3), (34, .ifCond .eq 39, 3), (37, .aload_n 0, 1), (38, .iload_n 1, 1), (39, .iconst 1, 1), (40, .iload 4, 2), (42, .ishl, 1), (43, .iconst (-1), 1), (44, .ixor, 1), (45, .iand, 1), (46, .invokevirtual 132, 3), (49, .iload_n 2, 1), (50, .if_icmp .ne 23, 3), (53, .iload_n 1, 1), (54, .iconst 1, 1), (55, .iload 4, 2), (57, .ishl, 1), (58, .iconst (-1), 1), (59, .ixor, 1), (60, .iand, 1), (61, .istore_n 1, 1), (62, .iinc 3 1, 3), (65, .aload_n 0, 1), (66, .getfield 9, 3), (69, .iconst 0, 1), (70, .iaload, 1), (71, .istore 4, 2), (73, .iinc 4 (-1), 3), (76, .goto (-53), 3), (79, .iload_n 3, 1), (80, .ireturn, 1)]
set_option maxRecDepth 20000 in
theorem DX10_spare : Tab cX10_spare tX10_spare = true := by decide +kernel
def tX10_nextTo : List (Nat × Instr × Nat) := [(0, .ldc 147, 2), (2, .aload_n 0, 1), (3, .iload_n 1, 1), (4, .invokevirtual 132, 3), (7, .iconst (-1), 1), (8, .ixor, 1), (9, .iand, 1), (10, .istore_n 2, 1), (11, .bipush (-4), 2), (13, .istore_n 3, 1), (14, .iconst 0, 1), (15, .istore 4, 2), (17, .iconst 0, 1), (18, .istore 5, 2), (20, .iload 5, 2), (22, .aload_n 0, 1), (23, .getfield 9, 3), (26, .iconst 0, 1), (27, .iaload, 1), (28, .if_icmp .ge 58, 3), (31, .iload_n 1, 1), (32, .iload 5, 2), (34, .invokestatic 73, 3), (37, .ifCond .eq 7, 3), (40, .iconst 0, 1), (41, .goto 14, 3), (44, .aload_n 0, 1), (45, .iload 5, 2), (47, .invokevirtual 116, 3), (50, .iload_n 2, 1), (51, .iand, 1), (52, .invokestatic 119, 3), (55, .istore 6, 2), (57, .iload 6, 2), (59, .iload 4, 2), (61, .if_icmp .le 8, 3), (64, .iload 5, 2), (66, .goto 4, 3), (69, .iload_n 3, 1), (70, .istore_n 3, 1), (71, .iload 4, 2), (73, .iload 6, 2), (75, .invokestatic 63, 3), (78, .istore 4, 2), (80, .iinc 5 1, 3), (83, .goto (-63), 3), (86, .iload_n 3, 1), (87, .ireturn, 1)]
set_option maxRecDepth 20000 in
theorem DX10_nextTo : Tab cX10_nextTo tX10_nextTo = true := by decide +kernel
def tX10_next : List (Nat × Instr × Nat) := [(0, .aload_n 0, 1), (1, .aload_n 0, 1), (2, .invokevirtual 128, 3), (5, .invokevirtual 157, 3), (8, .ireturn, 1)]
set_option maxRecDepth 20000 in
theorem DX10_next : Tab cX10_next tX10_next = true := by decide +kernel
def tX10_greedy : List (Nat × Instr × Nat) := [(0, .aload_n 0, 1), (1, .invokevirtual 128, 3), (4, .istore_n 1, 1), (5, .aload_n 0, 1), (6, .iload_n 1, 1), (7, .invokevirtual 157, 3), (10, .istore_n 2, 1), (11, .iload_n 2, 1), (12, .bipush (-4), 2), (14, .if_icmp .eq 18, 3), (17, .iload_n 1, 1), (18, .iconst 1, 1), (19, .iload_n 2, 1), (20, .ishl, 1), (21, .ior, 1), (22, .istore_n 1, 1), (23, .aload_n 0, 1), (24, .iload_n 1, 1), (25, .invokevirtual 157, 3), (28, .istore_n 2, 1), (29, .goto (-18), 3), (32, .iload_n 1, 1), (33, .invokestatic 119, 3), (36, .ireturn, 1)]
set_option maxRecDepth 20000 in
theorem DX10_greedy : Tab cX10_greedy tX10_greedy = true := by decide +kernel
def tX10_wouldNeed : List (Nat × Instr × Nat) := [(0, .iload_n 1, 1), (1, .invokestatic 138, 3), (4, .ifCond .ne 6, 3), (7, .bipush (-2), 2), (9, .ireturn, 1), (10, .aload_n 0, 1), (11, .iload_n 1, 1), (12, .invokevirtual 148, 3), (15, .istore_n 2, 1), (16, .iload_n 2, 1), (17, .bipush (-4), 2), (19, .if_icmp .ne 8, 3), (22, .bipush (-4), 2), (24, .goto 7, 3), (27, .iload_n 2, 1), (28, .invokestatic 119, 3), (31, .ireturn, 1)]
set_option maxRecDepth 20000 in
theorem DX10_wouldNeed : Tab cX10_wouldNeed tX10_wouldNeed = true := by decide +kernel
def tX10_wouldTurn : List (Nat × Instr × Nat) := [(0, .iload_n 1, 1), (1, .iconst 0, 1), (2, .bipush 23, 2), (4, .invokestatic 51, 3), (7, .ifCond .eq 17, 3), (10, .aload_n 0, 1), (11, .aload_n 0, 1), (12, .invokevirtual 128, 3), (15, .invokevirtual 132, 3), (18, .invokestatic 119, 3), (21, .goto 5, 3), (24, .bipush (-2), 2), (26, .ireturn, 1)]
set_option maxRecDepth 20000 in
theorem DX10_wouldTurn : Tab cX10_wouldTurn tX10_wouldTurn = true := by decide +kernel
def tX10_alone : List (Nat × Instr × Nat) := [(0, .aload_n 0, 1), (1, .iload_n 1, 1), (2, .invokevirtual 116, 3), (5, .aload_n 0, 1), (6, .aload_n 0, 1), (7, .invokevirtual 144, 3), (10, .iconst 1, 1), (11, .iload_n 1, 1), (12, .ishl, 1), (13, .iconst (-1), 1), (14, .ixor, 1), (15, .iand, 1), (16, .invokevirtual 132, 3), (19, .iconst (-1), 1), (20, .ixor, 1), (21, .iand, 1), (22, .invokestatic 119, 3), (25, .ireturn, 1)]
set_option maxRecDepth 20000 in
theorem DX10_alone : Tab cX10_alone tX10_alone = true := by decide +kernel
def tX10_postOf : List (Nat × Instr × Nat) := [(0, .aload_n 0, 1), (1, .iload_n 1, 1), (2, .invokevirtual 107, 3), (5, .ifCond .ne 5, 3), (8, .iconst (-1), 1), (9, .ireturn, 1), (10, .iload_n 2, 1), (11, .tableswitch 106 0 8 #[49, 49, 49, 56, 49, 49, 77, 86, 92], 49), (60, .aload_n 0, 1), (61, .iload_n 1, 1), (62, .iload_n 2, 1), (63, .invokevirtual 55, 3), (66, .ireturn, 1), (67, .aload_n 0, 1), (68, .iload_n 1, 1), (69, .iconst 4, 1), (70, .invokevirtual 55, 3), (73, .ifCond .ne 8, 3), (76, .bipush (-4), 2), (78, .goto 9, 3), (81, .aload_n 0, 1), (82, .iload_n 1, 1), (83, .iconst 3, 1), (84, .invokevirtual 55, 3), (87, .ireturn, 1), (88, .aload_n 0, 1), (89, .iload_n 1, 1), (90, .invokevirtual 116, 3), (93, .invokestatic 119, 3), (96, .ireturn, 1), (97, .aload_n 0, 1), (98, .iload_n 1, 1), (99, .invokevirtual 160, 3), (102, .ireturn, 1), (103, .aload_n 0, 1), (104, .iload_n 1, 1), (105, .invokevirtual 163, 3), (108, .ifCond .eq 7, 3), (111, .iconst 1, 1), (112, .goto 4, 3), (115, .iconst 0, 1), (116, .ireturn, 1), (117, .bipush (-2), 2), (119, .ireturn, 1)]
set_option maxRecDepth 20000 in
theorem DX10_postOf : Tab cX10_postOf tX10_postOf = true := by decide +kernel
def tX10_sees : List (Nat × Instr × Nat) := [(0, .aload_n 0, 1), (1, .iload_n 1, 1), (2, .invokevirtual 107, 3), (5, .ifCond .eq 10, 3), (8, .iload_n 2, 1), (9, .invokestatic 80, 3), (12, .ifCond .ne 7, 3), (15, .iconst (-1), 1), (16, .goto 20, 3), (19, .aload_n 0, 1), (20, .iload_n 1, 1), (21, .invokevirtual 116, 3), (24, .iload_n 2, 1), (25, .invokestatic 73, 3), (28, .ifCond .eq 7, 3), (31, .iconst 1, 1), (32, .goto 4, 3), (35, .iconst 0, 1), (36, .ireturn, 1)]
set_option maxRecDepth 20000 in
theorem DX10_sees : Tab cX10_sees tX10_sees = true := by decide +kernel
def tX10_watchers : List (Nat × Instr × Nat) := [(0, .iconst 0, 1), (1, .istore_n 2, 1), (2, .iconst 0, 1), (3, .istore_n 3, 1), (4, .iload_n 3, 1), (5, .aload_n 0, 1), (6, .getfield 9, 3), (9, .iconst 0, 1), (10, .iaload, 1), (11, .if_icmp .ge 37, 3), (14, .iload_n 2, 1), (15, .aload_n 0, 1), (16, .iload_n 3, 1), (17, .invokevirtual 69, 3), (20, .ifCond .eq 19, 3), (23, .aload_n 0, 1), (24, .iload_n 3, 1), (25, .invokevirtual 116, 3), (28, .iload_n 1, 1), (29, .invokestatic 73, 3), (32, .ifCond .eq 7, 3), (35, .iconst 1, 1), (36, .goto 4, 3), (39, .iconst 0, 1), (40, .iadd, 1), (41, .istore_n 2, 1), (42, .iinc 3 1, 3), (45, .goto (-41), 3), (48, .iload_n 2, 1), (49, .ireturn, 1)]
set_option maxRecDepth 20000 in
theorem DX10_watchers : Tab cX10_watchers tX10_watchers = true := by decide +kernel
def tX10_watched : List (Nat × Instr × Nat) := [(0, .iload_n 1, 1), (1, .invokestatic 80, 3), (4, .ifCond .eq 11, 3), (7, .aload_n 0, 1), (8, .iload_n 1, 1), (9, .invokevirtual 166, 3), (12, .goto 4, 3), (15, .iconst (-1), 1), (16, .ireturn, 1)]
set_option maxRecDepth 20000 in
theorem DX10_watched : Tab cX10_watched tX10_watched = true := by decide +kernel
def tX10_seenBy : List (Nat × Instr × Nat) := [(0, .iload_n 1, 1), (1, .invokestatic 80, 3), (4, .ifCond .ne 5, 3), (7, .iconst (-1), 1), (8, .ireturn, 1), (9, .iconst 0, 1), (10, .istore_n 2, 1), (11, .iconst 0, 1), (12, .istore_n 3, 1), (13, .iload_n 3, 1), (14, .aload_n 0, 1), (15, .getfield 9, 3), (18, .iconst 0, 1), (19, .iaload, 1), (20, .if_icmp .ge 31, 3), (23, .iload_n 2, 1), (24, .aload_n 0, 1), (25, .iload_n 3, 1), (26, .invokevirtual 116, 3), (29, .iload_n 1, 1), (30, .invokestatic 73, 3), (33, .ifCond .eq 9, 3), (36, .iconst 1, 1), (37, .iload_n 3, 1), (38, .ishl, 1), (39, .goto 4, 3), (42, .iconst 0, 1), (43, .ior, 1), (44, .istore_n 2, 1), (45, .iinc 3 1, 3), (48, .goto (-35), 3), (51, .iload_n 2, 1), (52, .ireturn, 1)]
set_option maxRecDepth 20000 in
theorem DX10_seenBy : Tab cX10_seenBy tX10_seenBy = true := by decide +kernel
def tX10_beginsGap : List (Nat × Instr × Nat) := [(0, .iload_n 0, 1), (1, .ifCond .ne 13, 3), (4, .iload_n 1, 1), (5, .ifCond .ne 7, 3), (8, .iconst 1, 1), (9, .goto 4, 3), (12, .iconst 0, 1), (13, .ireturn, 1), (14, .iload_n 0, 1), (15, .iload_n 1, 1), (16, .invokestatic 73, 3), (19, .ifCond .ne 23, 3), (22, .iload_n 0, 1), (23, .iload_n 1, 1), (24, .bipush 24, 2), (26, .iadd, 1), (27, .iconst 1, 1), (28, .isub, 1), (29, .bipush 24, 2), (31, .irem, 1), (32, .invokestatic 73, 3), (35, .ifCond .eq 7, 3), (38, .iconst 1, 1), (39, .goto 4, 3), (42, .iconst 0, 1), (43, .ireturn, 1)]
set_option maxRecDepth 20000 in
theorem DX10_beginsGap : Tab cX10_beginsGap tX10_beginsGap = true := by decide +kernel
def tX10_gapMany : List (Nat × Instr × Nat) := [(0, .aload_n 0, 1), (1, .aload_n 0, 1), (2, .invokevirtual 128, 3), (5, .invokevirtual 132, 3), (8, .istore_n 1, 1), (9, .iconst 0, 1), (10, .istore_n 2, 1), (11, .iconst 0, 1), (12, .istore_n 3, 1), (13, .iload_n 3, 1), (14, .bipush 24, 2), (16, .if_icmp .ge 25, 3), (19, .iload_n 2, 1), (20, .iload_n 1, 1), (21, .iload_n 3, 1), (22, .invokestatic 169, 3), (25, .ifCond .eq 7, 3), (28, .iconst 1, 1), (29, .goto 4, 3), (32, .iconst 0, 1), (33, .iadd, 1), (34, .istore_n 2, 1), (35, .iinc 3 1, 3), (38, .goto (-25), 3), (41, .iload_n 2, 1), (42, .ireturn, 1)]
set_option maxRecDepth 20000 in
theorem DX10_gapMany : Tab cX10_gapMany tX10_gapMany = true := by decide +kernel
def tX10_gapAt : List (Nat × Instr × Nat) := [(0, .aload_n 0, 1), (1, .aload_n 0, 1), (2, .invokevirtual 128, 3), (5, .invokevirtual 132, 3), (8, .istore_n 2, 1), (9, .iconst 0, 1), (10, .istore_n 3, 1), (11, .iconst 0, 1), (12, .istore 4, 2), (14, .iload 4, 2), (16, .bipush 24, 2), (18, .if_icmp .ge 29, 3), (21, .iload_n 2, 1), (22, .iload 4, 2), (24, .invokestatic 169, 3), (27, .ifCond .eq 14, 3), (30, .iload_n 3, 1), (31, .iload_n 1, 1), (32, .if_icmp .ne 6, 3), (35, .iload 4, 2), (37, .ireturn, 1), (38, .iinc 3 1, 3), (41, .iinc 4 1, 3), (44, .goto (-30), 3), (47, .iconst (-1), 1), (48, .ireturn, 1)]
set_option maxRecDepth 20000 in
theorem DX10_gapAt : Tab cX10_gapAt tX10_gapAt = true := by decide +kernel
def tX10_gapLength : List (Nat × Instr × Nat) := [(0, .aload_n 0, 1), (1, .aload_n 0, 1), (2, .invokevirtual 128, 3), (5, .invokevirtual 132, 3), (8, .istore_n 2, 1), (9, .iconst 0, 1), (10, .istore_n 3, 1), (11, .iload_n 3, 1), (12, .bipush 24, 2), (14, .if_icmp .ge 22, 3), (17, .iload_n 2, 1), (18, .iload_n 1, 1), (19, .iload_n 3, 1), (20, .iadd, 1), (21, .bipush 24, 2), (23, .irem, 1), (24, .invokestatic 73, 3), (27, .ifCond .ne 9, 3), (30, .iinc 3 1, 3), (33, .goto (-22), 3), (36, .iload_n 3, 1), (37, .ireturn, 1)]
set_option maxRecDepth 20000 in
theorem DX10_gapLength : Tab cX10_gapLength tX10_gapLength = true := by decide +kernel
def tX10_closest : List (Nat × Instr × Nat) := [(0, .iconst 0, 1), (1, .istore_n 2, 1), (2, .iconst 0, 1), (3, .istore_n 3, 1), (4, .iload_n 3, 1), (5, .aload_n 0, 1), (6, .iload_n 1, 1), (7, .invokevirtual 172, 3), (10, .if_icmp .ge 20, 3), (13, .iload_n 2, 1), (14, .iconst 1, 1), (15, .iload_n 1, 1), (16, .iload_n 3, 1), (17, .iadd, 1), (18, .bipush 24, 2), (20, .irem, 1), (21, .ishl, 1), (22, .ior, 1), (23, .istore_n 2, 1), (24, .iinc 3 1, 3), (27, .goto (-23), 3), (30, .bipush (-4), 2), (32, .istore_n 3, 1), (33, .iconst 0, 1), (34, .istore 4, 2), (36, .iconst 0, 1), (37, .istore 5, 2), (39, .iload 5, 2), (41, .aload_n 0, 1), (42, .getfield 9, 3), (45, .iconst 0, 1), (46, .iaload, 1), (47, .if_icmp .ge 45, 3), (50, .aload_n 0, 1), (51, .iload 5, 2), (53, .invokevirtual 116, 3), (56, .iload_n 2, 1), (57, .iand, 1), (58, .invokestatic 119, 3), (61, .istore 6, 2), (63, .iload 6, 2), (65, .iload 4, 2), (67, .if_icmp .le 8, 3), (70, .iload 5, 2), (72, .goto 4, 3), (75, .iload_n 3, 1), (76, .istore_n 3, 1), (77, .iload 4, 2), (79, .iload 6, 2), (81, .invokestatic 63, 3), (84, .istore 4, 2), (86, .iinc 5 1, 3), (89, .goto (-50), 3), (92, .iload_n 3, 1), (93, .ireturn, 1)]
set_option maxRecDepth 20000 in
theorem DX10_closest : Tab cX10_closest tX10_closest = true := by decide +kernel
def tX10_gapOf : List (Nat × Instr × Nat) := [(0, .aload_n 0, 1), (1, .iload_n 1, 1), (2, .invokevirtual 175, 3), (5, .istore_n 3, 1), (6, .iload_n 3, 1), (7, .iconst (-1), 1), (8, .if_icmp .ne 5, 3), (11, .iconst (-1), 1), (12, .ireturn, 1), (13, .iload_n 2, 1), (14, .ifCond .ne 7, 3), (17, .iload_n 3, 1), (18, .goto 31, 3), (21, .iload_n 2, 1), (22, .iconst 1, 1), (23, .if_icmp .ne 11, 3), (26, .aload_n 0, 1), (27, .iload_n 3, 1), (28, .invokevirtual 172, 3), (31, .goto 18, 3), (34, .iload_n 2, 1), (35, .iconst 2, 1), (36, .if_icmp .ne 11, 3), (39, .aload_n 0, 1), (40, .iload_n 3, 1), (41, .invokevirtual 178, 3), (44, .goto 5, 3), (47, .bipush (-2), 2), (49, .ireturn, 1)]
set_option maxRecDepth 20000 in
theorem DX10_gapOf : Tab cX10_gapOf tX10_gapOf = true := by decide +kernel
def tX10_longestGap : List (Nat × Instr × Nat) := [(0, .iconst 0, 1), (1, .istore_n 1, 1), (2, .iconst 0, 1), (3, .istore_n 2, 1), (4, .iload_n 2, 1), (5, .aload_n 0, 1), (6, .invokevirtual 181, 3), (9, .if_icmp .ge 23, 3), (12, .iload_n 1, 1), (13, .aload_n 0, 1), (14, .aload_n 0, 1), (15, .iload_n 2, 1), (16, .invokevirtual 175, 3), (19, .invokevirtual 172, 3), (22, .invokestatic 63, 3), (25, .istore_n 1, 1), (26, .iinc 2 1, 3), (29, .goto (-25), 3), (32, .iload_n 1, 1), (33, .ireturn, 1)]
set_option maxRecDepth 20000 in
theorem DX10_longestGap : Tab cX10_longestGap tX10_longestGap = true := by decide +kernel
def tX10_isAhead : List (Nat × Instr × Nat) := [(0, .iload_n 1, 1), (1, .ifCond .ne 23, 3), (4, .aload_n 0, 1), (5, .iload_n 2, 1), (6, .invokevirtual 116, 3), (9, .invokestatic 119, 3), (12, .aload_n 0, 1), (13, .iload_n 3, 1), (14, .invokevirtual 116, 3), (17, .invokestatic 119, 3), (20, .isub, 1), (21, .goto 35, 3), (24, .iload_n 1, 1), (25, .iconst 1, 1), (26, .if_icmp .ne 19, 3), (29, .aload_n 0, 1), (30, .iload_n 3, 1), (31, .iconst 0, 1), (32, .invokevirtual 55, 3), (35, .aload_n 0, 1), (36, .iload_n 2, 1), (37, .iconst 0, 1), (38, .invokevirtual 55, 3), (41, .isub, 1), (42, .goto 14, 3), (45, .aload_n 0, 1), (46, .iload_n 2, 1), (47, .invokevirtual 160, 3), (50, .aload_n 0, 1), (51, .iload_n 3, 1), (52, .invokevirtual 160, 3), (55, .isub, 1), (56, .istore 4, 2), (58, .iload 4, 2), (60, .ifCond .eq 16, 3), (63, .iload 4, 2), (65, .ifCond .le 7, 3), (68, .iconst 1, 1), (69, .goto 17, 3), (72, .iconst 0, 1), (73, .goto 13, 3), (76, .iload_n 2, 1), (77, .iload_n 3, 1), (78, .if_icmp .ge 7, 3), (81, .iconst 1, 1), (82, .goto 4, 3), (85, .iconst 0, 1), (86, .ireturn, 1)]
set_option maxRecDepth 20000 in
theorem DX10_isAhead : Tab cX10_isAhead tX10_isAhead = true := by decide +kernel
def tX10_ranked : List (Nat × Instr × Nat) := [(0, .iload_n 1, 1), (1, .iconst 0, 1), (2, .iconst 2, 1), (3, .invokestatic 51, 3), (6, .ifCond .ne 6, 3), (9, .bipush (-2), 2), (11, .ireturn, 1), (12, .iconst 0, 1), (13, .istore_n 3, 1), (14, .iload_n 3, 1), (15, .aload_n 0, 1), (16, .getfield 9, 3), (19, .iconst 0, 1), (20, .iaload, 1), (21, .if_icmp .ge 67, 3), (24, .iconst 0, 1), (25, .istore 4, 2), (27, .iconst 0, 1), (28, .istore 5, 2), (30, .iload 5, 2), (32, .aload_n 0, 1), (33, .getfield 9, 3), (36, .iconst 0, 1), (37, .iaload, 1), (38, .if_icmp .ge 36, 3), (41, .iload 4, 2), (43, .iload 5, 2), (45, .iload_n 3, 1), (46, .if_icmp .eq 18, 3), (49, .aload_n 0, 1), (50, .iload_n 1, 1), (51, .iload 5, 2), (53, .iload_n 3, 1), (54, .invokevirtual 184, 3), (57, .ifCond .eq 7, 3), (60, .iconst 1, 1), (61, .goto 4, 3), (64, .iconst 0, 1), (65, .iadd, 1), (66, .istore 4, 2), (68, .iinc 5 1, 3), (71, .goto (-41), 3), (74, .iload 4, 2), (76, .iload_n 2, 1), (77, .if_icmp .ne 5, 3), (80, .iload_n 3, 1), (81, .ireturn, 1), (82, .iinc 3 1, 3), (85, .goto (-71), 3), (88, .iconst (-1), 1), (89, .ireturn, 1)]
set_option maxRecDepth 20000 in
theorem DX10_ranked : Tab cX10_ranked tX10_ranked = true := by decide +kernel
def tX10_puts : List (Nat × Instr × Nat) := [(0, .aload_n 0, 1), (1, .getfield 26, 3), (4, .aload_n 0, 1), (5, .getfield 187, 3), (8, .iload_n 1, 1), (9, .iastore, 1), (10, .aload_n 0, 1), (11, .dup, 1), (12, .getfield 187, 3), (15, .iconst 1, 1), (16, .iadd, 1), (17, .putfield 187, 3), (20, .return_, 1)]
set_option maxRecDepth 20000 in
theorem DX10_puts : Tab cX10_puts tX10_puts = true := by decide +kernel
def tX10_number : List (Nat × Instr × Nat) := [(0, .iload_n 1, 1), (1, .bipush 10, 2), (3, .if_icmp .lt 11, 3), (6, .aload_n 0, 1), (7, .iload_n 1, 1), (8, .bipush 10, 2), (10, .idiv, 1), (11, .invokevirtual 190, 3), (14, .aload_n 0, 1), (15, .bipush 48, 2), (17, .iload_n 1, 1), (18, .bipush 10, 2), (20, .irem, 1), (21, .iadd, 1), (22, .invokevirtual 194, 3), (25, .return_, 1)]
set_option maxRecDepth 20000 in
theorem DX10_number : Tab cX10_number tX10_number = true := by decide +kernel
def tX10_describe : List (Nat × Instr × Nat) := [(0, .aload_n 0, 1), (1, .iload_n 1, 1), (2, .invokevirtual 107, 3), (5, .ifCond .ne 5, 3), (8, .iconst (-1), 1), (9, .ireturn, 1), (10, .aload_n 0, 1), (11, .iconst 0, 1), (12, .putfield 187, 3), (15, .aload_n 0, 1), (16, .iload_n 1, 1), (17, .invokevirtual 190, 3), (20, .aload_n 0, 1), (21, .bipush 64, 2), (23, .invokevirtual 194, 3), (26, .aload_n 0, 1), (27, .aload_n 0, 1), (28, .iload_n 1, 1), (29, .iconst 0, 1), (30, .invokevirtual 55, 3), (33, .invokevirtual 190, 3), (36, .aload_n 0, 1), (37, .bipush 60, 2), (39, .invokevirtual 194, 3), (42, .aload_n 0, 1), (43, .aload_n 0, 1), (44, .iload_n 1, 1), (45, .iconst 1, 1), (46, .invokevirtual 55, 3), (49, .invokevirtual 190, 3), (52, .aload_n 0, 1), (53, .bipush 62, 2), (55, .invokevirtual 194, 3), (58, .aload_n 0, 1), (59, .aload_n 0, 1), (60, .iload_n 1, 1), (61, .iconst 2, 1), (62, .invokevirtual 55, 3), (65, .invokevirtual 190, 3), (68, .aload_n 0, 1), (69, .iload_n 1, 1), (70, .iconst 4, 1), (71, .invokevirtual 55, 3), (74, .ifCond .le 35, 3), (77, .aload_n 0, 1), (78, .bipush 33, 2), (80, .invokevirtual 194, 3), (83, .aload_n 0, 1), (84, .aload_n 0, 1), (85, .iload_n 1, 1), (86, .iconst 3, 1), (87, .invokevirtual 55, 3), (90, .invokevirtual 190, 3), (93, .aload_n 0, 1), (94, .bipush 43, 2), (96, .invokevirtual 194, 3), (99, .aload_n 0, 1), (100, .aload_n 0, 1), (101, .iload_n 1, 1), (102, .iconst 4, 1), (103, .invokevirtual 55, 3), (106, .invokevirtual 190, 3), (109, .aload_n 0, 1), (110, .iload_n 1, 1), (111, .invokevirtual 69, 3), (114, .ifCond .eq 9, 3), (117, .aload_n 0, 1), (118, .bipush 42, 2), (120, .invokevirtual 194, 3), (123, .aload_n 0, 1), (124, .getfield 187, 3), (127, .ireturn, 1)]
set_option maxRecDepth 20000 in
theorem DX10_describe : Tab cX10_describe tX10_describe = true := by decide +kernel
def tX10_show : List (Nat × Instr × Nat) := [(0, .aload_n 0, 1), (1, .iconst 0, 1), (2, .putfield 187, 3), (5, .iconst 0, 1), (6, .istore_n 1, 1), (7, .iload_n 1, 1), (8, .bipush 24, 2), (10, .if_icmp .ge 43, 3), (13, .aload_n 0, 1), (14, .iload_n 1, 1), (15, .invokevirtual 166, 3), (18, .istore_n 2, 1), (19, .aload_n 0, 1), (20, .iload_n 2, 1), (21, .ifCond .ne 8, 3), (24, .bipush 46, 2), (26, .goto 18, 3), (29, .iload_n 2, 1), (30, .bipush 9, 2), (32, .if_icmp .le 8, 3), (35, .bipush 43, 2), (37, .goto 7, 3), (40, .bipush 48, 2), (42, .iload_n 2, 1), (43, .iadd, 1), (44, .invokevirtual 194, 3), (47, .iinc 1 1, 3), (50, .goto (-43), 3), (53, .aload_n 0, 1), (54, .getfield 187, 3), (57, .ireturn, 1)]
set_option maxRecDepth 20000 in
theorem DX10_show : Tab cX10_show tX10_show = true := by decide +kernel
def tX10_sign : List (Nat × Instr × Nat) := [(0, .iload_n 1, 1), (1, .iconst 0, 1), (2, .aload_n 0, 1), (3, .getfield 187, 3), (6, .iconst 1, 1), (7, .isub, 1), (8, .invokestatic 51, 3), (11, .ifCond .eq 12, 3), (14, .aload_n 0, 1), (15, .getfield 26, 3), (18, .iload_n 1, 1), (19, .iaload, 1), (20, .goto 4, 3), (23, .iconst (-1), 1), (24, .ireturn, 1)]
set_option maxRecDepth 20000 in
theorem DX10_sign : Tab cX10_sign tX10_sign = true := by decide +kernel
def tX10_append : List (Nat × Instr × Nat) := [(0, .iload_n 1, 1), (1, .bipush 32, 2), (3, .bipush 126, 2), (5, .invokestatic 51, 3), (8, .ifCond .eq 12, 3), (11, .aload_n 0, 1), (12, .getfield 197, 3), (15, .bipush 70, 2), (17, .if_icmp .ne 6, 3), (20, .bipush (-2), 2), (22, .ireturn, 1), (23, .aload_n 0, 1), (24, .getfield 29, 3), (27, .aload_n 0, 1), (28, .getfield 197, 3), (31, .iload_n 1, 1), (32, .iastore, 1), (33, .aload_n 0, 1), (34, .dup, 1), (35, .getfield 197, 3), (38, .iconst 1, 1), (39, .iadd, 1), (40, .putfield 197, 3), (43, .aload_n 0, 1), (44, .getfield 197, 3), (47, .ireturn, 1)]
set_option maxRecDepth 20000 in
theorem DX10_append : Tab cX10_append tX10_append = true := by decide +kernel
def tX10_signHere : List (Nat × Instr × Nat) := [(0, .aload_n 0, 1), (1, .getfield 200, 3), (4, .aload_n 0, 1), (5, .getfield 197, 3), (8, .if_icmp .ge 15, 3), (11, .aload_n 0, 1), (12, .getfield 29, 3), (15, .aload_n 0, 1), (16, .getfield 200, 3), (19, .iaload, 1), (20, .goto 4, 3), (23, .iconst (-1), 1), (24, .ireturn, 1)]
set_option maxRecDepth 20000 in
theorem DX10_signHere : Tab cX10_signHere tX10_signHere = true := by decide +kernel
def tX10_isHere : List (Nat × Instr × Nat) := [(0, .aload_n 0, 1), (1, .invokevirtual 203, 3), (4, .iload_n 1, 1), (5, .if_icmp .ne 7, 3), (8, .iconst 1, 1), (9, .goto 4, 3), (12, .iconst 0, 1), (13, .istore_n 2, 1), (14, .aload_n 0, 1), (15, .dup, 1), (16, .getfield 200, 3), (19, .iload_n 2, 1), (20, .ifCond .eq 7, 3), (23, .iconst 1, 1), (24, .goto 4, 3), (27, .iconst 0, 1), (28, .iadd, 1), (29, .putfield 200, 3), (32, .iload_n 2, 1), (33, .ireturn, 1)]
set_option maxRecDepth 20000 in
theorem DX10_isHere : Tab cX10_isHere tX10_isHere = true := by decide +kernel
def tX10_isNumber : List (Nat × Instr × Nat) := [(0, .iconst 0, 1), (1, .istore_n 3, 1), (2, .iconst 0, 1), (3, .istore 4, 2), (5, .iload 4, 2), (7, .iload_n 1, 1), (8, .if_icmp .ge 46, 3), (11, .aload_n 0, 1), (12, .invokevirtual 203, 3), (15, .bipush 48, 2), (17, .bipush 57, 2), (19, .invokestatic 51, 3), (22, .ifCond .eq 32, 3), (25, .bipush 10, 2), (27, .iload_n 3, 1), (28, .imul, 1), (29, .aload_n 0, 1), (30, .invokevirtual 203, 3), (33, .iadd, 1), (34, .bipush 48, 2), (36, .isub, 1), (37, .istore_n 3, 1), (38, .aload_n 0, 1), (39, .dup, 1), (40, .getfield 200, 3), (43, .iconst 1, 1), (44, .iadd, 1), (45, .putfield 200, 3), (48, .iinc 4 1, 3), (51, .goto (-46), 3), (54, .aload_n 0, 1), (55, .getfield 32, 3), (58, .iload_n 2, 1), (59, .iload_n 3, 1), (60, .iastore, 1), (61, .iload 4, 2), (63, .ifCond .le 7, 3), (66, .iconst 1, 1), (67, .goto 4, 3), (70, .iconst 0, 1), (71, .ireturn, 1)]
set_option maxRecDepth 20000 in
theorem DX10_isNumber : Tab cX10_isNumber tX10_isNumber = true := by decide +kernel
def tX10_isKind : List (Nat × Instr × Nat) := [(0, .iload_n 0, 1), (1, .bipush 112, 2), (3, .if_icmp .eq 51, 3), (6, .iload_n 0, 1), (7, .bipush 45, 2), (9, .if_icmp .eq 45, 3), (12, .iload_n 0, 1), (13, .bipush 114, 2), (15, .if_icmp .eq 39, 3), (18, .iload_n 0, 1), (19, .bipush 98, 2), (21, .if_icmp .eq 33, 3), (24, .iload_n 0, 1), (25, .bipush 110, 2), (27, .if_icmp .eq 27, 3), (30, .iload_n 0, 1), (31, .bipush 109, 2), (33, .if_icmp .eq 21, 3), (36, .iload_n 0, 1), (37, .bipush 108, 2), (39, .if_icmp .eq 15, 3), (42, .iload_n 0, 1), (43, .bipush 104, 2), (45, .if_icmp .eq 9, 3), (48, .iload_n 0, 1), (49, .bipush 119, 2), (51, .if_icmp .ne 7, 3), (54, .iconst 1, 1), (55, .goto 4, 3), (58, .iconst 0, 1), (59, .ireturn, 1)]
set_option maxRecDepth 20000 in
theorem DX10_isKind : Tab cX10_isKind tX10_isKind = true := by decide +kernel
def tX10_readsCommand : List (Nat × Instr × Nat) := [(0, .iconst 4, 1), (1, .aload_n 0, 1), (2, .getfield 206, 3), (5, .imul, 1), (6, .istore_n 1, 1), (7, .aload_n 0, 1), (8, .invokevirtual 203, 3), (11, .istore_n 2, 1), (12, .iload_n 2, 1), (13, .invokestatic 209, 3), (16, .ifCond .ne 5, 3), (19, .iconst 0, 1), (20, .ireturn, 1), (21, .aload_n 0, 1), (22, .getfield 32, 3), (25, .iload_n 1, 1), (26, .iload_n 2, 1), (27, .iastore, 1), (28, .aload_n 0, 1), (29, .dup, 1), (30, .getfield 200, 3), (33, .iconst 1, 1), (34, .iadd, 1), (35, .putfield 200, 3), (38, .aload_n 0, 1), (39, .dup, 1), (40, .getfield 206, 3), (43, .iconst 1, 1), (44, .iadd, 1), (45, .putfield 206, 3), (48, .iload_n 2, 1), (49, .lookupswitch 186 #[(98, 118), (104, 175), (112, 51), (114, 51), (119, 184)], 51), (100, .aload_n 0, 1), (101, .iload_n 2, 1), (102, .bipush 112, 2), (104, .if_icmp .ne 7, 3), (107, .iconst 2, 1), (108, .goto 4, 3), (111, .iconst 1, 1), (112, .iload_n 1, 1), (113, .iconst 1, 1), (114, .iadd, 1), (115, .invokevirtual 212, 3), (118, .ifCond .eq 47, 3), (121, .aload_n 0, 1), (122, .bipush 60, 2), (124, .invokevirtual 215, 3), (127, .ifCond .eq 38, 3), (130, .aload_n 0, 1), (131, .iconst 2, 1), (132, .iload_n 1, 1), (133, .iconst 2, 1), (134, .iadd, 1), (135, .invokevirtual 212, 3), (138, .ifCond .eq 27, 3), (141, .aload_n 0, 1), (142, .bipush 62, 2), (144, .invokevirtual 215, 3), (147, .ifCond .eq 18, 3), (150, .aload_n 0, 1), (151, .iconst 2, 1), (152, .iload_n 1, 1), (153, .iconst 3, 1), (154, .iadd, 1), (155, .invokevirtual 212, 3), (158, .ifCond .eq 7, 3), (161, .iconst 1, 1), (162, .goto 4, 3), (165, .iconst 0, 1), (166, .ireturn, 1), (167, .aload_n 0, 1), (168, .iconst 1, 1), (169, .iload_n 1, 1), (170, .iconst 1, 1), (171, .iadd, 1), (172, .invokevirtual 212, 3), (175, .ifCond .eq 47, 3), (178, .aload_n 0, 1), (179, .bipush 33, 2), (181, .invokevirtual 215, 3), (184, .ifCond .eq 38, 3), (187, .aload_n 0, 1), (188, .iconst 2, 1), (189, .iload_n 1, 1), (190, .iconst 2, 1), (191, .iadd, 1), (192, .invokevirtual 212, 3), (195, .ifCond .eq 27, 3), (198, .aload_n 0, 1), (199, .bipush 43, 2), (201, .invokevirtual 215, 3), (204, .ifCond .eq 18, 3), (207, .aload_n 0, 1), (208, .iconst 1, 1), (209, .iload_n 1, 1), (210, .iconst 3, 1), (211, .iadd, 1), (212, .invokevirtual 212, 3), (215, .ifCond .eq 7, 3), (218, .iconst 1, 1), (219, .goto 4, 3), (222, .iconst 0, 1), (223, .ireturn, 1), (224, .aload_n 0, 1), (225, .iconst 2, 1), (226, .iload_n 1, 1), (227, .iconst 1, 1), (228, .iadd, 1), (229, .invokevirtual 212, 3), (232, .ireturn, 1), (233, .iconst 1, 1), (234, .ireturn, 1), (235, .aload_n 0, 1), (236, .iconst 1, 1), (237, .iload_n 1, 1), (238, .iconst 1, 1), (239, .iadd, 1), (240, .invokevirtual 212, 3), (243, .ireturn, 1)]
set_option maxRecDepth 20000 in
theorem DX10_readsCommand : Tab cX10_readsCommand tX10_readsCommand = true := by decide +kernel
def tX10_isText : List (Nat × Instr × Nat) := [(0, .aload_n 0, 1), (1, .iconst 0, 1), (2, .putfield 200, 3), (5, .aload_n 0, 1), (6, .iconst 0, 1), (7, .putfield 206, 3), (10, .aload_n 0, 1), (11, .invokevirtual 218, 3), (14, .istore_n 1, 1), (15, .iload_n 1, 1), (16, .ifCond .eq 20, 3), (19, .aload_n 0, 1), (20, .bipush 59, 2), (22, .invokevirtual 215, 3), (25, .ifCond .eq 11, 3), (28, .aload_n 0, 1), (29, .invokevirtual 218, 3), (32, .istore_n 1, 1), (33, .goto (-18), 3), (36, .iload_n 1, 1), (37, .ifCond .eq 18, 3), (40, .aload_n 0, 1), (41, .getfield 200, 3), (44, .aload_n 0, 1), (45, .getfield 197, 3), (48, .if_icmp .ne 7, 3), (51, .iconst 1, 1), (52, .goto 4, 3), (55, .iconst 0, 1), (56, .ireturn, 1)]
set_option maxRecDepth 20000 in
theorem DX10_isText : Tab cX10_isText tX10_isText = true := by decide +kernel
def tX10_does : List (Nat × Instr × Nat) := [(0, .aload_n 0, 1), (1, .getfield 32, 3), (4, .iload_n 1, 1), (5, .iconst 1, 1), (6, .iadd, 1), (7, .iaload, 1), (8, .istore_n 2, 1), (9, .aload_n 0, 1), (10, .getfield 32, 3), (13, .iload_n 1, 1), (14, .iconst 2, 1), (15, .iadd, 1), (16, .iaload, 1), (17, .istore_n 3, 1), (18, .aload_n 0, 1), (19, .getfield 32, 3), (22, .iload_n 1, 1), (23, .iconst 3, 1), (24, .iadd, 1), (25, .iaload, 1), (26, .istore 4, 2), (28, .aload_n 0, 1), (29, .getfield 32, 3), (32, .iload_n 1, 1), (33, .iaload, 1), (34, .lookupswitch 133 #[(45, 83), (98, 98), (104, 127), (108, 120), (109, 113), (110, 107), (112, 74), (114, 89)], 74), (108, .aload_n 0, 1), (109, .iload_n 2, 1), (110, .iload_n 3, 1), (111, .iload 4, 2), (113, .invokevirtual 100, 3), (116, .ireturn, 1), (117, .aload_n 0, 1), (118, .iload_n 2, 1), (119, .invokevirtual 110, 3), (122, .ireturn, 1), (123, .aload_n 0, 1), (124, .iload_n 2, 1), (125, .iload_n 3, 1), (126, .iload 4, 2), (128, .invokevirtual 113, 3), (131, .ireturn, 1), (132, .aload_n 0, 1), (133, .iload_n 2, 1), (134, .iload_n 3, 1), (135, .iload 4, 2), (137, .invokevirtual 122, 3), (140, .ireturn, 1), (141, .aload_n 0, 1), (142, .iload_n 2, 1), (143, .invokevirtual 125, 3), (146, .ireturn, 1), (147, .aload_n 0, 1), (148, .iload_n 2, 1), (149, .iconst 1, 1), (150, .invokevirtual 135, 3), (153, .ireturn, 1), (154, .aload_n 0, 1), (155, .iload_n 2, 1), (156, .iconst 0, 1), (157, .invokevirtual 135, 3), (160, .ireturn, 1), (161, .aload_n 0, 1), (162, .iload_n 2, 1), (163, .invokevirtual 141, 3), (166, .ireturn, 1), (167, .aload_n 0, 1), (168, .invokevirtual 151, 3), (171, .ireturn, 1)]
set_option maxRecDepth 20000 in
theorem DX10_does : Tab cX10_does tX10_does = true := by decide +kernel
def tX10_read : List (Nat × Instr × Nat) := [(0, .aload_n 0, 1), (1, .invokevirtual 222, 3), (4, .istore_n 1, 1), (5, .aload_n 0, 1), (6, .iconst 0, 1), (7, .putfield 197, 3), (10, .iload_n 1, 1), (11, .ifCond .ne 11, 3), (14, .bipush (-100), 2), (16, .aload_n 0, 1), (17, .getfield 200, 3), (20, .isub, 1), (21, .ireturn, 1), (22, .aload_n 0, 1), (23, .invokevirtual 97, 3), (26, .iconst 0, 1), (27, .istore_n 2, 1), (28, .iload_n 2, 1), (29, .aload_n 0, 1), (30, .getfield 206, 3), (33, .if_icmp .ge 66, 3), (36, .aload_n 0, 1), (37, .iconst 4, 1), (38, .iload_n 2, 1), (39, .imul, 1), (40, .invokevirtual 225, 3), (43, .istore_n 3, 1), (44, .iload_n 3, 1), (45, .ifCond .ge 48, 3), (48, .aload_n 0, 1), (49, .iload_n 3, 1), (50, .bipush (-3), 2), (52, .if_icmp .ne 7, 3), (55, .iload_n 2, 1), (56, .goto 7, 3), (59, .aload_n 0, 1), (60, .getfield 22, 3), (63, .putfield 22, 3), (66, .aload_n 0, 1), (67, .getfield 13, 3), (70, .iconst 0, 1), (71, .aload_n 0, 1), (72, .getfield 9, 3), (75, .iconst 0, 1), (76, .invokestatic 35, 3), (79, .iload_n 3, 1), (80, .bipush (-3), 2), (82, .if_icmp .ne 8, 3), (85, .bipush (-3), 2), (87, .goto 5, 3), (90, .bipush (-2), 2), (92, .ireturn, 1), (93, .iinc 2 1, 3), (96, .goto (-68), 3), (99, .aload_n 0, 1), (100, .aload_n 0, 1), (101, .getfield 206, 3), (104, .invokevirtual 104, 3), (107, .ireturn, 1)]
set_option maxRecDepth 20000 in
theorem DX10_read : Tab cX10_read tX10_read = true := by decide +kernel
def tX10_refusal : List (Nat × Instr × Nat) := [(0, .iload_n 1, 1), (1, .iconst 0, 1), (2, .iconst 2, 1), (3, .invokestatic 51, 3), (6, .ifCond .ne 6, 3), (9, .bipush (-2), 2), (11, .ireturn, 1), (12, .aload_n 0, 1), (13, .getfield 45, 3), (16, .ifCond .ne 8, 3), (19, .bipush (-4), 2), (21, .goto 30, 3), (24, .iload_n 1, 1), (25, .ifCond .ne 10, 3), (28, .aload_n 0, 1), (29, .getfield 45, 3), (32, .goto 19, 3), (35, .iload_n 1, 1), (36, .iconst 1, 1), (37, .if_icmp .ne 10, 3), (40, .aload_n 0, 1), (41, .getfield 48, 3), (44, .goto 7, 3), (47, .aload_n 0, 1), (48, .getfield 22, 3), (51, .ireturn, 1)]
set_option maxRecDepth 20000 in
theorem DX10_refusal : Tab cX10_refusal tX10_refusal = true := by decide +kernel
def tX10_overlaps : List (Nat × Instr × Nat) := [(0, .iconst 0, 1), (1, .istore_n 1, 1), (2, .iconst 0, 1), (3, .istore_n 2, 1), (4, .iload_n 2, 1), (5, .bipush 24, 2), (7, .if_icmp .ge 26, 3), (10, .iload_n 1, 1), (11, .aload_n 0, 1), (12, .iload_n 2, 1), (13, .invokevirtual 166, 3), (16, .iconst 1, 1), (17, .if_icmp .le 7, 3), (20, .iconst 1, 1), (21, .goto 4, 3), (24, .iconst 0, 1), (25, .iadd, 1), (26, .istore_n 1, 1), (27, .iinc 2 1, 3), (30, .goto (-26), 3), (33, .iload_n 1, 1), (34, .ireturn, 1)]
set_option maxRecDepth 20000 in
theorem DX10_overlaps : Tab cX10_overlaps tX10_overlaps = true := by decide +kernel
def tX10_account : List (Nat × Instr × Nat) := [(0, .iload_n 1, 1), (1, .tableswitch 153 0 12 #[67, 74, 82, 94, 99, 104, 109, 124, 131, 131, 131, 143, 148], 67), (68, .aload_n 0, 1), (69, .getfield 9, 3), (72, .iconst 0, 1), (73, .iaload, 1), (74, .ireturn, 1), (75, .aload_n 0, 1), (76, .invokevirtual 128, 3), (79, .invokestatic 119, 3), (82, .ireturn, 1), (83, .aload_n 0, 1), (84, .aload_n 0, 1), (85, .invokevirtual 128, 3), (88, .invokevirtual 132, 3), (91, .invokestatic 119, 3), (94, .ireturn, 1), (95, .aload_n 0, 1), (96, .invokevirtual 228, 3), (99, .ireturn, 1), (100, .aload_n 0, 1), (101, .invokevirtual 181, 3), (104, .ireturn, 1), (105, .aload_n 0, 1), (106, .invokevirtual 231, 3), (109, .ireturn, 1), (110, .bipush 24, 2), (112, .aload_n 0, 1), (113, .aload_n 0, 1), (114, .invokevirtual 144, 3), (117, .invokevirtual 132, 3), (120, .invokestatic 119, 3), (123, .isub, 1), (124, .ireturn, 1), (125, .aload_n 0, 1), (126, .getfield 9, 3), (129, .iconst 1, 1), (130, .iaload, 1), (131, .ireturn, 1), (132, .aload_n 0, 1), (133, .getfield 9, 3), (136, .iload_n 1, 1), (137, .bipush 8, 2), (139, .isub, 1), (140, .iconst 2, 1), (141, .iadd, 1), (142, .iaload, 1), (143, .ireturn, 1), (144, .aload_n 0, 1), (145, .getfield 197, 3), (148, .ireturn, 1), (149, .aload_n 0, 1), (150, .getfield 39, 3), (153, .ireturn, 1), (154, .bipush (-2), 2), (156, .ireturn, 1)]
set_option maxRecDepth 20000 in
theorem DX10_account : Tab cX10_account tX10_account = true := by decide +kernel
def tX10_isWell : List (Nat × Instr × Nat) := [(0, .aload_n 0, 1), (1, .aload_n 0, 1), (2, .invokevirtual 128, 3), (5, .invokevirtual 132, 3), (8, .invokestatic 119, 3), (11, .istore_n 1, 1), (12, .iconst 0, 1), (13, .istore_n 2, 1), (14, .iload_n 2, 1), (15, .aload_n 0, 1), (16, .invokevirtual 181, 3), (19, .if_icmp .ge 21, 3), (22, .iload_n 1, 1), (23, .aload_n 0, 1), (24, .aload_n 0, 1), (25, .iload_n 2, 1), (26, .invokevirtual 175, 3), (29, .invokevirtual 172, 3), (32, .iadd, 1), (33, .istore_n 1, 1), (34, .iinc 2 1, 3), (37, .goto (-23), 3), (40, .iload_n 1, 1), (41, .bipush 24, 2), (43, .if_icmp .ne 7, 3), (46, .iconst 1, 1), (47, .goto 4, 3), (50, .iconst 0, 1), (51, .ireturn, 1)]
set_option maxRecDepth 20000 in
theorem DX10_isWell : Tab cX10_isWell tX10_isWell = true := by decide +kernel
def tX10_mean : List (Nat × Instr × Nat) := [(0, .iconst 0, 1), (1, .istore_n 1, 1), (2, .iconst 0, 1), (3, .istore_n 2, 1), (4, .iload_n 2, 1), (5, .bipush 24, 2), (7, .if_icmp .ge 17, 3), (10, .iload_n 1, 1), (11, .aload_n 0, 1), (12, .iload_n 2, 1), (13, .invokevirtual 166, 3), (16, .iadd, 1), (17, .istore_n 1, 1), (18, .iinc 2 1, 3), (21, .goto (-17), 3), (24, .iload_n 1, 1), (25, .i2f, 1), (26, .ldc 234, 2), (28, .fdiv, 1), (29, .invokestatic 235, 3), (32, .ireturn, 1)]
set_option maxRecDepth 20000 in
theorem DX10_mean : Tab cX10_mean tX10_mean = true := by decide +kernel
def tX10_undo : List (Nat × Instr × Nat) := [(0, .aload_n 0, 1), (1, .getfield 39, 3), (4, .ifCond .ne 6, 3), (7, .bipush (-4), 2), (9, .ireturn, 1), (10, .aload_n 0, 1), (11, .dup, 1), (12, .getfield 39, 3), (15, .iconst 1, 1), (16, .isub, 1), (17, .putfield 39, 3), (20, .aload_n 0, 1), (21, .getfield 19, 3), (24, .bipush 59, 2), (26, .aload_n 0, 1), (27, .getfield 39, 3), (30, .imul, 1), (31, .aload_n 0, 1), (32, .getfield 9, 3), (35, .iconst 0, 1), (36, .invokestatic 35, 3), (39, .aload_n 0, 1), (40, .getfield 39, 3), (43, .ireturn, 1)]
set_option maxRecDepth 20000 in
theorem DX10_undo : Tab cX10_undo tX10_undo = true := by decide +kernel
def tX10_save : List (Nat × Instr × Nat) := [(0, .aload_n 0, 1), (1, .getfield 9, 3), (4, .iconst 0, 1), (5, .aload_n 0, 1), (6, .getfield 16, 3), (9, .iconst 0, 1), (10, .invokestatic 35, 3), (13, .aload_n 0, 1), (14, .iconst 1, 1), (15, .putfield 241, 3), (18, .aload_n 0, 1), (19, .getfield 9, 3), (22, .iconst 0, 1), (23, .iaload, 1), (24, .ireturn, 1)]
set_option maxRecDepth 20000 in
theorem DX10_save : Tab cX10_save tX10_save = true := by decide +kernel
def tX10_restore : List (Nat × Instr × Nat) := [(0, .aload_n 0, 1), (1, .getfield 241, 3), (4, .ifCond .ne 6, 3), (7, .bipush (-4), 2), (9, .ireturn, 1), (10, .aload_n 0, 1), (11, .getfield 16, 3), (14, .iconst 0, 1), (15, .aload_n 0, 1), (16, .getfield 9, 3), (19, .iconst 0, 1), (20, .invokestatic 35, 3), (23, .aload_n 0, 1), (24, .iconst 0, 1), (25, .putfield 39, 3), (28, .aload_n 0, 1), (29, .getfield 9, 3), (32, .iconst 0, 1), (33, .iaload, 1), (34, .ireturn, 1)]
set_option maxRecDepth 20000 in
theorem DX10_restore : Tab cX10_restore tX10_restore = true := by decide +kernel
def tJxf58ca_isNaN_12338 : List (Nat × Instr × Nat) := [(0, .fload_n 0, 1), (1, .fload_n 0, 1), (2, .fcmp .l, 1), (3, .ifCond .eq 7, 3), (6, .iconst 1, 1), (7, .goto 4, 3), (10, .iconst 0, 1), (11, .ireturn, 1)]
set_option maxRecDepth 20000 in
theorem DJxf58ca_isNaN_12338 : Tab cJxf58ca_isNaN_12338 tJxf58ca_isNaN_12338 = true := by decide +kernel
def tJxf58ca_floatToIntBits_5c35a : List (Nat × Instr × Nat) := [(0, .fload_n 0, 1), (1, .invokestatic 59, 3), (4, .ifCond .ne 8, 3), (7, .fload_n 0, 1), (8, .invokestatic 74, 3), (11, .ireturn, 1), (12, .ldc 77, 2), (14, .ireturn, 1)]
set_option maxRecDepth 20000 in
theorem DJxf58ca_floatToIntBits_5c35a : Tab cJxf58ca_floatToIntBits_5c35a tJxf58ca_floatToIntBits_5c35a = true := by decide +kernel
def tJ6_bitCount_0f7a4 : List (Nat × Instr × Nat) := [(0, .iload_n 0, 1), (1, .iload_n 0, 1), (2, .iconst 1, 1), (3, .iushr, 1), (4, .ldc_w 265, 3), (7, .iand, 1), (8, .isub, 1), (9, .istore_n 0, 1), (10, .iload_n 0, 1), (11, .ldc_w 266, 3), (14, .iand, 1), (15, .iload_n 0, 1), (16, .iconst 2, 1), (17, .iushr, 1), (18, .ldc_w 266, 3), (21, .iand, 1), (22, .iadd, 1), (23, .istore_n 0, 1), (24, .iload_n 0, 1), (25, .iload_n 0, 1), (26, .iconst 4, 1), (27, .iushr, 1), (28, .iadd, 1), (29, .ldc_w 267, 3), (32, .iand, 1), (33, .istore_n 0, 1), (34, .iload_n 0, 1), (35, .iload_n 0, 1), (36, .bipush 8, 2), (38, .iushr, 1), (39, .iadd, 1), (40, .istore_n 0, 1), (41, .iload_n 0, 1), (42, .iload_n 0, 1), (43, .bipush 16, 2), (45, .iushr, 1), (46, .iadd, 1), (47, .istore_n 0, 1), (48, .iload_n 0, 1), (49, .bipush 63, 2), (51, .iand, 1), (52, .ireturn, 1)]
set_option maxRecDepth 20000 in
theorem DJ6_bitCount_0f7a4 : Tab cJ6_bitCount_0f7a4 tJ6_bitCount_0f7a4 = true := by decide +kernel
def tJ9_max_7cf53 : List (Nat × Instr × Nat) := [(0, .iload_n 0, 1), (1, .iload_n 1, 1), (2, .if_icmp .lt 7, 3), (5, .iload_n 0, 1), (6, .goto 4, 3), (9, .iload_n 1, 1), (10, .ireturn, 1)]
set_option maxRecDepth 20000 in
theorem DJ9_max_7cf53 : Tab cJ9_max_7cf53 tJ9_max_7cf53 = true := by decide +kernel
def tJ9_min_7cf53 : List (Nat × Instr × Nat) := [(0, .iload_n 0, 1), (1, .iload_n 1, 1), (2, .if_icmp .gt 7, 3), (5, .iload_n 0, 1), (6, .goto 4, 3), (9, .iload_n 1, 1), (10, .ireturn, 1)]
set_option maxRecDepth 20000 in
theorem DJ9_min_7cf53 : Tab cJ9_min_7cf53 tJ9_min_7cf53 = true := by decide +kernel
def tL_law_0 : List (Nat × Instr × Nat) := [(0, .new 7, 3), (3, .dup, 1), (4, .invokespecial 9, 3), (7, .astore_n 1, 1), (8, .new 10, 3), (11, .dup, 1), (12, .invokespecial 12, 3), (15, .astore_n 2, 1), (16, .iconst 0, 1), (17, .istore_n 3, 1), (18, .iload_n 3, 1), (19, .aload_n 0, 1), (20, .arraylength, 1), (21, .iconst 4, 1), (22, .isub, 1), (23, .if_icmp .gt 946, 3), (26, .aload_n 0, 1), (27, .iload_n 3, 1), (28, .iaload, 1), (29, .bipush 63, 2), (31, .iand, 1), (32, .tableswitch 931 0 34 #[156, 199, 222, 265, 308, 331, 364, 387, 400, 433, 466, 489, 512, 545, 558, 571, 584, 607, 620, 633, 646, 669, 692, 725, 748, 761, 784, 807, 820, 843, 866, 879, 892, 905, 918], 156), (188, .aload_n 1, 1), (189, .aload_n 0, 1), (190, .iload_n 3, 1), (191, .iconst 1, 1), (192, .iadd, 1), (193, .iaload, 1), (194, .aload_n 0, 1), (195, .iload_n 3, 1), (196, .iconst 2, 1), (197, .iadd, 1), (198, .iaload, 1), (199, .aload_n 0, 1), (200, .iload_n 3, 1), (201, .iconst 3, 1), (202, .iadd, 1), (203, .iaload, 1), (204, .invokevirtual 13, 3), (207, .aload_n 2, 1), (208, .aload_n 0, 1), (209, .iload_n 3, 1), (210, .iconst 1, 1), (211, .iadd, 1), (212, .iaload, 1), (213, .aload_n 0, 1), (214, .iload_n 3, 1), (215, .iconst 2, 1), (216, .iadd, 1), (217, .iaload, 1), (218, .aload_n 0, 1), (219, .iload_n 3, 1), (220, .iconst 3, 1), (221, .iadd, 1), (222, .iaload, 1), (223, .invokevirtual 17, 3), (226, .if_icmp .eq 737, 3), (229, .iconst 0, 1), (230, .ireturn, 1), (231, .aload_n 1, 1)]
set_option maxRecDepth 20000 in
theorem DL_law_0 : Tab cL_law tL_law_0 = true := by decide +kernel
def tL_law_1 : List (Nat × Instr × Nat) := [(232, .aload_n 0, 1), (233, .iload_n 3, 1), (234, .iconst 1, 1), (235, .iadd, 1), (236, .iaload, 1), (237, .invokevirtual 18, 3), (240, .aload_n 2, 1), (241, .aload_n 0, 1), (242, .iload_n 3, 1), (243, .iconst 1, 1), (244, .iadd, 1), (245, .iaload, 1), (246, .invokevirtual 22, 3), (249, .if_icmp .eq 714, 3), (252, .iconst 0, 1), (253, .ireturn, 1), (254, .aload_n 1, 1), (255, .aload_n 0, 1), (256, .iload_n 3, 1), (257, .iconst 1, 1), (258, .iadd, 1), (259, .iaload, 1), (260, .aload_n 0, 1), (261, .iload_n 3, 1), (262, .iconst 2, 1), (263, .iadd, 1), (264, .iaload, 1), (265, .aload_n 0, 1), (266, .iload_n 3, 1), (267, .iconst 3, 1), (268, .iadd, 1), (269, .iaload, 1), (270, .invokevirtual 23, 3), (273, .aload_n 2, 1), (274, .aload_n 0, 1), (275, .iload_n 3, 1), (276, .iconst 1, 1), (277, .iadd, 1), (278, .iaload, 1), (279, .aload_n 0, 1), (280, .iload_n 3, 1), (281, .iconst 2, 1), (282, .iadd, 1), (283, .iaload, 1), (284, .aload_n 0, 1), (285, .iload_n 3, 1), (286, .iconst 3, 1), (287, .iadd, 1), (288, .iaload, 1), (289, .invokevirtual 26, 3), (292, .if_icmp .eq 671, 3), (295, .iconst 0, 1), (296, .ireturn, 1), (297, .aload_n 1, 1), (298, .aload_n 0, 1), (299, .iload_n 3, 1), (300, .iconst 1, 1), (301, .iadd, 1), (302, .iaload, 1), (303, .aload_n 0, 1)]
set_option maxRecDepth 20000 in
theorem DL_law_1 : Tab cL_law tL_law_1 = true := by decide +kernel
def tL_law_2 : List (Nat × Instr × Nat) := [(304, .iload_n 3, 1), (305, .iconst 2, 1), (306, .iadd, 1), (307, .iaload, 1), (308, .aload_n 0, 1), (309, .iload_n 3, 1), (310, .iconst 3, 1), (311, .iadd, 1), (312, .iaload, 1), (313, .invokevirtual 27, 3), (316, .aload_n 2, 1), (317, .aload_n 0, 1), (318, .iload_n 3, 1), (319, .iconst 1, 1), (320, .iadd, 1), (321, .iaload, 1), (322, .aload_n 0, 1), (323, .iload_n 3, 1), (324, .iconst 2, 1), (325, .iadd, 1), (326, .iaload, 1), (327, .aload_n 0, 1), (328, .iload_n 3, 1), (329, .iconst 3, 1), (330, .iadd, 1), (331, .iaload, 1), (332, .invokevirtual 30, 3), (335, .if_icmp .eq 628, 3), (338, .iconst 0, 1), (339, .ireturn, 1), (340, .aload_n 1, 1), (341, .aload_n 0, 1), (342, .iload_n 3, 1), (343, .iconst 1, 1), (344, .iadd, 1), (345, .iaload, 1), (346, .invokevirtual 31, 3), (349, .aload_n 2, 1), (350, .aload_n 0, 1), (351, .iload_n 3, 1), (352, .iconst 1, 1), (353, .iadd, 1), (354, .iaload, 1), (355, .invokevirtual 34, 3), (358, .if_icmp .eq 605, 3), (361, .iconst 0, 1), (362, .ireturn, 1), (363, .aload_n 1, 1), (364, .aload_n 0, 1), (365, .iload_n 3, 1), (366, .iconst 1, 1), (367, .iadd, 1), (368, .iaload, 1), (369, .aload_n 0, 1), (370, .iload_n 3, 1), (371, .iconst 2, 1), (372, .iadd, 1), (373, .iaload, 1), (374, .invokevirtual 35, 3), (377, .aload_n 2, 1)]
set_option maxRecDepth 20000 in
theorem DL_law_2 : Tab cL_law tL_law_2 = true := by decide +kernel
def tL_law_3 : List (Nat × Instr × Nat) := [(378, .aload_n 0, 1), (379, .iload_n 3, 1), (380, .iconst 1, 1), (381, .iadd, 1), (382, .iaload, 1), (383, .aload_n 0, 1), (384, .iload_n 3, 1), (385, .iconst 2, 1), (386, .iadd, 1), (387, .iaload, 1), (388, .invokevirtual 39, 3), (391, .if_icmp .eq 572, 3), (394, .iconst 0, 1), (395, .ireturn, 1), (396, .aload_n 1, 1), (397, .aload_n 0, 1), (398, .iload_n 3, 1), (399, .iconst 1, 1), (400, .iadd, 1), (401, .iaload, 1), (402, .invokevirtual 40, 3), (405, .aload_n 2, 1), (406, .aload_n 0, 1), (407, .iload_n 3, 1), (408, .iconst 1, 1), (409, .iadd, 1), (410, .iaload, 1), (411, .invokevirtual 43, 3), (414, .if_icmp .eq 549, 3), (417, .iconst 0, 1), (418, .ireturn, 1), (419, .aload_n 1, 1), (420, .invokevirtual 44, 3), (423, .aload_n 2, 1), (424, .invokevirtual 48, 3), (427, .if_icmp .eq 536, 3), (430, .iconst 0, 1), (431, .ireturn, 1), (432, .aload_n 1, 1), (433, .aload_n 0, 1), (434, .iload_n 3, 1), (435, .iconst 1, 1), (436, .iadd, 1), (437, .iaload, 1), (438, .aload_n 0, 1), (439, .iload_n 3, 1), (440, .iconst 2, 1), (441, .iadd, 1), (442, .iaload, 1), (443, .invokevirtual 49, 3), (446, .aload_n 2, 1), (447, .aload_n 0, 1), (448, .iload_n 3, 1), (449, .iconst 1, 1), (450, .iadd, 1), (451, .iaload, 1), (452, .aload_n 0, 1), (453, .iload_n 3, 1), (454, .iconst 2, 1), (455, .iadd, 1)]
set_option maxRecDepth 20000 in
theorem DL_law_3 : Tab cL_law tL_law_3 = true := by decide +kernel
def tL_law_4 : List (Nat × Instr × Nat) := [(456, .iaload, 1), (457, .invokevirtual 52, 3), (460, .if_icmp .eq 503, 3), (463, .iconst 0, 1), (464, .ireturn, 1), (465, .aload_n 1, 1), (466, .aload_n 0, 1), (467, .iload_n 3, 1), (468, .iconst 1, 1), (469, .iadd, 1), (470, .iaload, 1), (471, .aload_n 0, 1), (472, .iload_n 3, 1), (473, .iconst 2, 1), (474, .iadd, 1), (475, .iaload, 1), (476, .invokevirtual 53, 3), (479, .aload_n 2, 1), (480, .aload_n 0, 1), (481, .iload_n 3, 1), (482, .iconst 1, 1), (483, .iadd, 1), (484, .iaload, 1), (485, .aload_n 0, 1), (486, .iload_n 3, 1), (487, .iconst 2, 1), (488, .iadd, 1), (489, .iaload, 1), (490, .invokevirtual 56, 3), (493, .if_icmp .eq 470, 3), (496, .iconst 0, 1), (497, .ireturn, 1), (498, .aload_n 1, 1), (499, .aload_n 0, 1), (500, .iload_n 3, 1), (501, .iconst 1, 1), (502, .iadd, 1), (503, .iaload, 1), (504, .invokevirtual 57, 3), (507, .aload_n 2, 1), (508, .aload_n 0, 1), (509, .iload_n 3, 1), (510, .iconst 1, 1), (511, .iadd, 1), (512, .iaload, 1), (513, .invokevirtual 60, 3), (516, .if_icmp .eq 447, 3), (519, .iconst 0, 1), (520, .ireturn, 1), (521, .aload_n 1, 1), (522, .aload_n 0, 1), (523, .iload_n 3, 1), (524, .iconst 1, 1), (525, .iadd, 1), (526, .iaload, 1), (527, .invokevirtual 61, 3), (530, .aload_n 2, 1), (531, .aload_n 0, 1), (532, .iload_n 3, 1), (533, .iconst 1, 1)]
set_option maxRecDepth 20000 in
theorem DL_law_4 : Tab cL_law tL_law_4 = true := by decide +kernel
def tL_law_5 : List (Nat × Instr × Nat) := [(534, .iadd, 1), (535, .iaload, 1), (536, .invokevirtual 64, 3), (539, .if_icmp .eq 424, 3), (542, .iconst 0, 1), (543, .ireturn, 1), (544, .aload_n 1, 1), (545, .aload_n 0, 1), (546, .iload_n 3, 1), (547, .iconst 1, 1), (548, .iadd, 1), (549, .iaload, 1), (550, .aload_n 0, 1), (551, .iload_n 3, 1), (552, .iconst 2, 1), (553, .iadd, 1), (554, .iaload, 1), (555, .invokevirtual 65, 3), (558, .aload_n 2, 1), (559, .aload_n 0, 1), (560, .iload_n 3, 1), (561, .iconst 1, 1), (562, .iadd, 1), (563, .iaload, 1), (564, .aload_n 0, 1), (565, .iload_n 3, 1), (566, .iconst 2, 1), (567, .iadd, 1), (568, .iaload, 1), (569, .invokevirtual 68, 3), (572, .if_icmp .eq 391, 3), (575, .iconst 0, 1), (576, .ireturn, 1), (577, .aload_n 1, 1), (578, .invokevirtual 69, 3), (581, .aload_n 2, 1), (582, .invokevirtual 72, 3), (585, .if_icmp .eq 378, 3), (588, .iconst 0, 1), (589, .ireturn, 1), (590, .aload_n 1, 1), (591, .invokevirtual 73, 3), (594, .aload_n 2, 1), (595, .invokevirtual 76, 3), (598, .if_icmp .eq 365, 3), (601, .iconst 0, 1), (602, .ireturn, 1), (603, .aload_n 1, 1), (604, .invokevirtual 77, 3), (607, .aload_n 2, 1), (608, .invokevirtual 80, 3), (611, .if_icmp .eq 352, 3), (614, .iconst 0, 1), (615, .ireturn, 1), (616, .aload_n 1, 1), (617, .aload_n 0, 1), (618, .iload_n 3, 1), (619, .iconst 1, 1), (620, .iadd, 1), (621, .iaload, 1)]
set_option maxRecDepth 20000 in
theorem DL_law_5 : Tab cL_law tL_law_5 = true := by decide +kernel
def tL_law_6 : List (Nat × Instr × Nat) := [(622, .invokevirtual 81, 3), (625, .aload_n 2, 1), (626, .aload_n 0, 1), (627, .iload_n 3, 1), (628, .iconst 1, 1), (629, .iadd, 1), (630, .iaload, 1), (631, .invokevirtual 84, 3), (634, .if_icmp .eq 329, 3), (637, .iconst 0, 1), (638, .ireturn, 1), (639, .aload_n 1, 1), (640, .invokevirtual 85, 3), (643, .aload_n 2, 1), (644, .invokevirtual 88, 3), (647, .if_icmp .eq 316, 3), (650, .iconst 0, 1), (651, .ireturn, 1), (652, .aload_n 1, 1), (653, .invokevirtual 89, 3), (656, .aload_n 2, 1), (657, .invokevirtual 92, 3), (660, .if_icmp .eq 303, 3), (663, .iconst 0, 1), (664, .ireturn, 1), (665, .aload_n 1, 1), (666, .invokevirtual 93, 3), (669, .aload_n 2, 1), (670, .invokevirtual 96, 3), (673, .if_icmp .eq 290, 3), (676, .iconst 0, 1), (677, .ireturn, 1), (678, .aload_n 1, 1), (679, .aload_n 0, 1), (680, .iload_n 3, 1), (681, .iconst 1, 1), (682, .iadd, 1), (683, .iaload, 1), (684, .invokevirtual 97, 3), (687, .aload_n 2, 1), (688, .aload_n 0, 1), (689, .iload_n 3, 1), (690, .iconst 1, 1), (691, .iadd, 1), (692, .iaload, 1), (693, .invokevirtual 100, 3), (696, .if_icmp .eq 267, 3), (699, .iconst 0, 1), (700, .ireturn, 1), (701, .aload_n 1, 1), (702, .aload_n 0, 1), (703, .iload_n 3, 1), (704, .iconst 1, 1), (705, .iadd, 1), (706, .iaload, 1), (707, .invokevirtual 101, 3), (710, .aload_n 2, 1), (711, .aload_n 0, 1), (712, .iload_n 3, 1), (713, .iconst 1, 1)]
set_option maxRecDepth 20000 in
theorem DL_law_6 : Tab cL_law tL_law_6 = true := by decide +kernel
def tL_law_7 : List (Nat × Instr × Nat) := [(714, .iadd, 1), (715, .iaload, 1), (716, .invokevirtual 104, 3), (719, .if_icmp .eq 244, 3), (722, .iconst 0, 1), (723, .ireturn, 1), (724, .aload_n 1, 1), (725, .aload_n 0, 1), (726, .iload_n 3, 1), (727, .iconst 1, 1), (728, .iadd, 1), (729, .iaload, 1), (730, .aload_n 0, 1), (731, .iload_n 3, 1), (732, .iconst 2, 1), (733, .iadd, 1), (734, .iaload, 1), (735, .invokevirtual 105, 3), (738, .aload_n 2, 1), (739, .aload_n 0, 1), (740, .iload_n 3, 1), (741, .iconst 1, 1), (742, .iadd, 1), (743, .iaload, 1), (744, .aload_n 0, 1), (745, .iload_n 3, 1), (746, .iconst 2, 1), (747, .iadd, 1), (748, .iaload, 1), (749, .invokevirtual 108, 3), (752, .if_icmp .eq 211, 3), (755, .iconst 0, 1), (756, .ireturn, 1), (757, .aload_n 1, 1), (758, .aload_n 0, 1), (759, .iload_n 3, 1), (760, .iconst 1, 1), (761, .iadd, 1), (762, .iaload, 1), (763, .invokevirtual 109, 3), (766, .aload_n 2, 1), (767, .aload_n 0, 1), (768, .iload_n 3, 1), (769, .iconst 1, 1), (770, .iadd, 1), (771, .iaload, 1), (772, .invokevirtual 112, 3), (775, .if_icmp .eq 188, 3), (778, .iconst 0, 1), (779, .ireturn, 1), (780, .aload_n 1, 1), (781, .invokevirtual 113, 3), (784, .aload_n 2, 1), (785, .invokevirtual 116, 3), (788, .if_icmp .eq 175, 3), (791, .iconst 0, 1), (792, .ireturn, 1), (793, .aload_n 1, 1), (794, .aload_n 0, 1), (795, .iload_n 3, 1)]
set_option maxRecDepth 20000 in
theorem DL_law_7 : Tab cL_law tL_law_7 = true := by decide +kernel
def tL_law_8 : List (Nat × Instr × Nat) := [(796, .iconst 1, 1), (797, .iadd, 1), (798, .iaload, 1), (799, .invokevirtual 117, 3), (802, .aload_n 2, 1), (803, .aload_n 0, 1), (804, .iload_n 3, 1), (805, .iconst 1, 1), (806, .iadd, 1), (807, .iaload, 1), (808, .invokevirtual 120, 3), (811, .if_icmp .eq 152, 3), (814, .iconst 0, 1), (815, .ireturn, 1), (816, .aload_n 1, 1), (817, .aload_n 0, 1), (818, .iload_n 3, 1), (819, .iconst 1, 1), (820, .iadd, 1), (821, .iaload, 1), (822, .invokevirtual 121, 3), (825, .aload_n 2, 1), (826, .aload_n 0, 1), (827, .iload_n 3, 1), (828, .iconst 1, 1), (829, .iadd, 1), (830, .iaload, 1), (831, .invokevirtual 124, 3), (834, .if_icmp .eq 129, 3), (837, .iconst 0, 1), (838, .ireturn, 1), (839, .aload_n 1, 1), (840, .invokevirtual 125, 3), (843, .aload_n 2, 1), (844, .invokevirtual 128, 3), (847, .if_icmp .eq 116, 3), (850, .iconst 0, 1), (851, .ireturn, 1), (852, .aload_n 1, 1), (853, .aload_n 0, 1), (854, .iload_n 3, 1), (855, .iconst 1, 1), (856, .iadd, 1), (857, .iaload, 1), (858, .invokevirtual 129, 3), (861, .aload_n 2, 1), (862, .aload_n 0, 1), (863, .iload_n 3, 1), (864, .iconst 1, 1), (865, .iadd, 1), (866, .iaload, 1), (867, .invokevirtual 132, 3), (870, .if_icmp .eq 93, 3), (873, .iconst 0, 1), (874, .ireturn, 1), (875, .aload_n 1, 1), (876, .aload_n 0, 1), (877, .iload_n 3, 1), (878, .iconst 1, 1), (879, .iadd, 1)]
set_option maxRecDepth 20000 in
theorem DL_law_8 : Tab cL_law tL_law_8 = true := by decide +kernel
def tL_law_9 : List (Nat × Instr × Nat) := [(880, .iaload, 1), (881, .invokevirtual 133, 3), (884, .aload_n 2, 1), (885, .aload_n 0, 1), (886, .iload_n 3, 1), (887, .iconst 1, 1), (888, .iadd, 1), (889, .iaload, 1), (890, .invokevirtual 136, 3), (893, .if_icmp .eq 70, 3), (896, .iconst 0, 1), (897, .ireturn, 1), (898, .aload_n 1, 1), (899, .invokevirtual 137, 3), (902, .aload_n 2, 1), (903, .invokevirtual 140, 3), (906, .if_icmp .eq 57, 3), (909, .iconst 0, 1), (910, .ireturn, 1), (911, .aload_n 1, 1), (912, .invokevirtual 141, 3), (915, .aload_n 2, 1), (916, .invokevirtual 144, 3), (919, .if_icmp .eq 44, 3), (922, .iconst 0, 1), (923, .ireturn, 1), (924, .aload_n 1, 1), (925, .invokevirtual 145, 3), (928, .aload_n 2, 1), (929, .invokevirtual 148, 3), (932, .if_icmp .eq 31, 3), (935, .iconst 0, 1), (936, .ireturn, 1), (937, .aload_n 1, 1), (938, .invokevirtual 149, 3), (941, .aload_n 2, 1), (942, .invokevirtual 152, 3), (945, .if_icmp .eq 18, 3), (948, .iconst 0, 1), (949, .ireturn, 1), (950, .aload_n 1, 1), (951, .invokevirtual 153, 3), (954, .aload_n 2, 1), (955, .invokevirtual 156, 3), (958, .if_icmp .eq 5, 3), (961, .iconst 0, 1), (962, .ireturn, 1), (963, .iinc 3 4, 3), (966, .goto (-948), 3), (969, .iconst 1, 1), (970, .ireturn, 1)]
set_option maxRecDepth 20000 in
theorem DL_law_9 : Tab cL_law tL_law_9 = true := by decide +kernel
