section
-- ===== PART A: goes FIRST, ahead of the names: the tables' words, and 'selects' of the private methods out of them =====
/-- a private method of a class that the tables say can be made, by its rows of tables_1 -/
def lw_okq (q : MethodName × Nat) : Prop := (q.1.cls ≠ "java/lang/invoke/MethodHandle" ∧ q.1.cls ≠ "java/lang/invoke/VarHandle") ∧ Cond.instantiable q.1.cls q.2 ∈ tables_1 ∧ Cond.privateMethod q.1 ∈ tables_1 ∧ Cond.instanceMethod q.1 ∈ tables_1
theorem lw_p0 : lw_okq (⟨"ThawPoints$Works", "nextSign", "()I"⟩, 6) := ⟨⟨by decide +kernel, by decide +kernel⟩, List.mem_of_getElem? (i := 179) (by decide +kernel), List.mem_of_getElem? (i := 242) (by decide +kernel), List.mem_of_getElem? (i := 243) (by decide +kernel)⟩
theorem lw_p1 : lw_okq (⟨"ThawPoints$Works", "readNumber", "(II)Z"⟩, 6) := ⟨⟨by decide +kernel, by decide +kernel⟩, List.mem_of_getElem? (i := 179) (by decide +kernel), List.mem_of_getElem? (i := 250) (by decide +kernel), List.mem_of_getElem? (i := 251) (by decide +kernel)⟩
theorem lw_p2 : lw_okq (⟨"ThawPoints$Works", "nextDigit", "()I"⟩, 6) := ⟨⟨by decide +kernel, by decide +kernel⟩, List.mem_of_getElem? (i := 179) (by decide +kernel), List.mem_of_getElem? (i := 257) (by decide +kernel), List.mem_of_getElem? (i := 258) (by decide +kernel)⟩
theorem lw_p3 : lw_okq (⟨"ThawPoints$Works", "keepNumber", "(I)V"⟩, 6) := ⟨⟨by decide +kernel, by decide +kernel⟩, List.mem_of_getElem? (i := 179) (by decide +kernel), List.mem_of_getElem? (i := 261) (by decide +kernel), List.mem_of_getElem? (i := 262) (by decide +kernel)⟩
theorem lw_p4 : lw_okq (⟨"java/lang/Throwable", "fillInStackTrace", "(I)Ljava/lang/Throwable;"⟩, 6) := ⟨⟨by decide +kernel, by decide +kernel⟩, List.mem_of_getElem? (i := 347) (by decide +kernel), List.mem_of_getElem? (i := 345) (by decide +kernel), List.mem_of_getElem? (i := 346) (by decide +kernel)⟩
theorem lw_p5 : lw_okq (⟨"ThawPoints", "mixedNumbers", "(JI)J"⟩, 5) := ⟨⟨by decide +kernel, by decide +kernel⟩, List.mem_of_getElem? (i := 17) (by decide +kernel), List.mem_of_getElem? (i := 389) (by decide +kernel), List.mem_of_getElem? (i := 390) (by decide +kernel)⟩
theorem lw_p6 : lw_okq (⟨"ThawPoints", "needThermometer", "(I)V"⟩, 5) := ⟨⟨by decide +kernel, by decide +kernel⟩, List.mem_of_getElem? (i := 17) (by decide +kernel), List.mem_of_getElem? (i := 397) (by decide +kernel), List.mem_of_getElem? (i := 398) (by decide +kernel)⟩
theorem lw_p7 : lw_okq (⟨"ThawPoints$State", "isOld", "(I)Z"⟩, 8) := ⟨⟨by decide +kernel, by decide +kernel⟩, List.mem_of_getElem? (i := 25) (by decide +kernel), List.mem_of_getElem? (i := 435) (by decide +kernel), List.mem_of_getElem? (i := 436) (by decide +kernel)⟩
theorem lw_p8 : lw_okq (⟨"ThawPoints$Points", "lastUpTo", "(I)I"⟩, 8) := ⟨⟨by decide +kernel, by decide +kernel⟩, List.mem_of_getElem? (i := 49) (by decide +kernel), List.mem_of_getElem? (i := 454) (by decide +kernel), List.mem_of_getElem? (i := 455) (by decide +kernel)⟩
theorem lw_p9 : lw_okq (⟨"ThawPoints$Points", "firstAbove", "(I)I"⟩, 8) := ⟨⟨by decide +kernel, by decide +kernel⟩, List.mem_of_getElem? (i := 49) (by decide +kernel), List.mem_of_getElem? (i := 458) (by decide +kernel), List.mem_of_getElem? (i := 459) (by decide +kernel)⟩
theorem lw_p10 : lw_okq (⟨"ThawPoints$Points", "onLine", "(III)I"⟩, 8) := ⟨⟨by decide +kernel, by decide +kernel⟩, List.mem_of_getElem? (i := 49) (by decide +kernel), List.mem_of_getElem? (i := 462) (by decide +kernel), List.mem_of_getElem? (i := 463) (by decide +kernel)⟩
theorem lw_p11 : lw_okq (⟨"ThawPoints", "mixedReadings", "(JI)J"⟩, 5) := ⟨⟨by decide +kernel, by decide +kernel⟩, List.mem_of_getElem? (i := 17) (by decide +kernel), List.mem_of_getElem? (i := 481) (by decide +kernel), List.mem_of_getElem? (i := 482) (by decide +kernel)⟩
theorem lw_p12 : lw_okq (⟨"ThawPoints", "mixedOutlook", "(JI)J"⟩, 5) := ⟨⟨by decide +kernel, by decide +kernel⟩, List.mem_of_getElem? (i := 17) (by decide +kernel), List.mem_of_getElem? (i := 508) (by decide +kernel), List.mem_of_getElem? (i := 509) (by decide +kernel)⟩
theorem lw_p13 : lw_okq (⟨"ThawPoints$State", "creepOf", "(LThawPoints$Thermometer;)I"⟩, 8) := ⟨⟨by decide +kernel, by decide +kernel⟩, List.mem_of_getElem? (i := 25) (by decide +kernel), List.mem_of_getElem? (i := 546) (by decide +kernel), List.mem_of_getElem? (i := 547) (by decide +kernel)⟩
theorem lw_p14 : lw_okq (⟨"ThawPoints$Points", "hang", "(I)V"⟩, 8) := ⟨⟨by decide +kernel, by decide +kernel⟩, List.mem_of_getElem? (i := 49) (by decide +kernel), List.mem_of_getElem? (i := 678) (by decide +kernel), List.mem_of_getElem? (i := 679) (by decide +kernel)⟩
theorem lw_p15 : lw_okq (⟨"ThawPoints$Points", "putInOrder", "(I)V"⟩, 8) := ⟨⟨by decide +kernel, by decide +kernel⟩, List.mem_of_getElem? (i := 49) (by decide +kernel), List.mem_of_getElem? (i := 682) (by decide +kernel), List.mem_of_getElem? (i := 683) (by decide +kernel)⟩
def lw_privs_1 : List (MethodName × Nat) := [(⟨"ThawPoints$Works", "nextSign", "()I"⟩, 6), (⟨"ThawPoints$Works", "readNumber", "(II)Z"⟩, 6), (⟨"ThawPoints$Works", "nextDigit", "()I"⟩, 6), (⟨"ThawPoints$Works", "keepNumber", "(I)V"⟩, 6), (⟨"java/lang/Throwable", "fillInStackTrace", "(I)Ljava/lang/Throwable;"⟩, 6), (⟨"ThawPoints", "mixedNumbers", "(JI)J"⟩, 5), (⟨"ThawPoints", "needThermometer", "(I)V"⟩, 5), (⟨"ThawPoints$State", "isOld", "(I)Z"⟩, 8), (⟨"ThawPoints$Points", "lastUpTo", "(I)I"⟩, 8), (⟨"ThawPoints$Points", "firstAbove", "(I)I"⟩, 8), (⟨"ThawPoints$Points", "onLine", "(III)I"⟩, 8), (⟨"ThawPoints", "mixedReadings", "(JI)J"⟩, 5), (⟨"ThawPoints", "mixedOutlook", "(JI)J"⟩, 5), (⟨"ThawPoints$State", "creepOf", "(LThawPoints$Thermometer;)I"⟩, 8), (⟨"ThawPoints$Points", "hang", "(I)V"⟩, 8), (⟨"ThawPoints$Points", "putInOrder", "(I)V"⟩, 8)]
theorem lw_r1 : ∀ q ∈ lw_privs_1, lw_okq q := List.forall_mem_cons.mpr ⟨lw_p0, List.forall_mem_cons.mpr ⟨lw_p1, List.forall_mem_cons.mpr ⟨lw_p2, List.forall_mem_cons.mpr ⟨lw_p3, List.forall_mem_cons.mpr ⟨lw_p4, List.forall_mem_cons.mpr ⟨lw_p5, List.forall_mem_cons.mpr ⟨lw_p6, List.forall_mem_cons.mpr ⟨lw_p7, List.forall_mem_cons.mpr ⟨lw_p8, List.forall_mem_cons.mpr ⟨lw_p9, List.forall_mem_cons.mpr ⟨lw_p10, List.forall_mem_cons.mpr ⟨lw_p11, List.forall_mem_cons.mpr ⟨lw_p12, List.forall_mem_cons.mpr ⟨lw_p13, List.forall_mem_cons.mpr ⟨lw_p14, List.forall_mem_cons.mpr ⟨lw_p15, fun _ h => absurd h List.not_mem_nil⟩⟩⟩⟩⟩⟩⟩⟩⟩⟩⟩⟩⟩⟩⟩⟩
theorem lw_p16 : lw_okq (⟨"ThawPoints", "tryPart", "()I"⟩, 5) := ⟨⟨by decide +kernel, by decide +kernel⟩, List.mem_of_getElem? (i := 17) (by decide +kernel), List.mem_of_getElem? (i := 729) (by decide +kernel), List.mem_of_getElem? (i := 730) (by decide +kernel)⟩
theorem lw_p17 : lw_okq (⟨"ThawPoints", "tryToMake", "(III)I"⟩, 5) := ⟨⟨by decide +kernel, by decide +kernel⟩, List.mem_of_getElem? (i := 17) (by decide +kernel), List.mem_of_getElem? (i := 733) (by decide +kernel), List.mem_of_getElem? (i := 734) (by decide +kernel)⟩
theorem lw_p18 : lw_okq (⟨"ThawPoints", "tryToMeasure", "(II)I"⟩, 5) := ⟨⟨by decide +kernel, by decide +kernel⟩, List.mem_of_getElem? (i := 17) (by decide +kernel), List.mem_of_getElem? (i := 737) (by decide +kernel), List.mem_of_getElem? (i := 738) (by decide +kernel)⟩
theorem lw_p19 : lw_okq (⟨"ThawPoints", "tryToSeal", "(I)I"⟩, 5) := ⟨⟨by decide +kernel, by decide +kernel⟩, List.mem_of_getElem? (i := 17) (by decide +kernel), List.mem_of_getElem? (i := 741) (by decide +kernel), List.mem_of_getElem? (i := 742) (by decide +kernel)⟩
theorem lw_p20 : lw_okq (⟨"ThawPointsModel", "holds", "(I)Z"⟩, 15) := ⟨⟨by decide +kernel, by decide +kernel⟩, List.mem_of_getElem? (i := 810) (by decide +kernel), List.mem_of_getElem? (i := 873) (by decide +kernel), List.mem_of_getElem? (i := 874) (by decide +kernel)⟩
theorem lw_p21 : lw_okq (⟨"ThawPointsModel", "save", "()V"⟩, 15) := ⟨⟨by decide +kernel, by decide +kernel⟩, List.mem_of_getElem? (i := 810) (by decide +kernel), List.mem_of_getElem? (i := 877) (by decide +kernel), List.mem_of_getElem? (i := 878) (by decide +kernel)⟩
theorem lw_p22 : lw_okq (⟨"ThawPointsModel", "makes", "(III)I"⟩, 15) := ⟨⟨by decide +kernel, by decide +kernel⟩, List.mem_of_getElem? (i := 810) (by decide +kernel), List.mem_of_getElem? (i := 881) (by decide +kernel), List.mem_of_getElem? (i := 882) (by decide +kernel)⟩
theorem lw_p23 : lw_okq (⟨"ThawPointsModel", "isThere", "(I)Z"⟩, 15) := ⟨⟨by decide +kernel, by decide +kernel⟩, List.mem_of_getElem? (i := 810) (by decide +kernel), List.mem_of_getElem? (i := 892) (by decide +kernel), List.mem_of_getElem? (i := 893) (by decide +kernel)⟩
theorem lw_p24 : lw_okq (⟨"ThawPointsModel", "get", "(II)I"⟩, 15) := ⟨⟨by decide +kernel, by decide +kernel⟩, List.mem_of_getElem? (i := 810) (by decide +kernel), List.mem_of_getElem? (i := 896) (by decide +kernel), List.mem_of_getElem? (i := 897) (by decide +kernel)⟩
theorem lw_p25 : lw_okq (⟨"ThawPointsModel", "fills", "(II)I"⟩, 15) := ⟨⟨by decide +kernel, by decide +kernel⟩, List.mem_of_getElem? (i := 810) (by decide +kernel), List.mem_of_getElem? (i := 910) (by decide +kernel), List.mem_of_getElem? (i := 911) (by decide +kernel)⟩
theorem lw_p26 : lw_okq (⟨"ThawPointsModel", "passes", "(I)I"⟩, 15) := ⟨⟨by decide +kernel, by decide +kernel⟩, List.mem_of_getElem? (i := 810) (by decide +kernel), List.mem_of_getElem? (i := 918) (by decide +kernel), List.mem_of_getElem? (i := 919) (by decide +kernel)⟩
theorem lw_p27 : lw_okq (⟨"ThawPointsModel", "hindrance", "(II)I"⟩, 15) := ⟨⟨by decide +kernel, by decide +kernel⟩, List.mem_of_getElem? (i := 810) (by decide +kernel), List.mem_of_getElem? (i := 933) (by decide +kernel), List.mem_of_getElem? (i := 934) (by decide +kernel)⟩
theorem lw_p28 : lw_okq (⟨"ThawPointsModel", "pointAt", "(II)I"⟩, 15) := ⟨⟨by decide +kernel, by decide +kernel⟩, List.mem_of_getElem? (i := 810) (by decide +kernel), List.mem_of_getElem? (i := 937) (by decide +kernel), List.mem_of_getElem? (i := 938) (by decide +kernel)⟩
theorem lw_p29 : lw_okq (⟨"ThawPointsModel", "pointOf", "(III)I"⟩, 15) := ⟨⟨by decide +kernel, by decide +kernel⟩, List.mem_of_getElem? (i := 810) (by decide +kernel), List.mem_of_getElem? (i := 941) (by decide +kernel), List.mem_of_getElem? (i := 942) (by decide +kernel)⟩
theorem lw_p30 : lw_okq (⟨"ThawPointsModel", "readingOf", "(II)I"⟩, 15) := ⟨⟨by decide +kernel, by decide +kernel⟩, List.mem_of_getElem? (i := 810) (by decide +kernel), List.mem_of_getElem? (i := 945) (by decide +kernel), List.mem_of_getElem? (i := 946) (by decide +kernel)⟩
theorem lw_p31 : lw_okq (⟨"ThawPointsModel", "crosses", "(III)Z"⟩, 15) := ⟨⟨by decide +kernel, by decide +kernel⟩, List.mem_of_getElem? (i := 810) (by decide +kernel), List.mem_of_getElem? (i := 952) (by decide +kernel), List.mem_of_getElem? (i := 953) (by decide +kernel)⟩
def lw_privs_2 : List (MethodName × Nat) := [(⟨"ThawPoints", "tryPart", "()I"⟩, 5), (⟨"ThawPoints", "tryToMake", "(III)I"⟩, 5), (⟨"ThawPoints", "tryToMeasure", "(II)I"⟩, 5), (⟨"ThawPoints", "tryToSeal", "(I)I"⟩, 5), (⟨"ThawPointsModel", "holds", "(I)Z"⟩, 15), (⟨"ThawPointsModel", "save", "()V"⟩, 15), (⟨"ThawPointsModel", "makes", "(III)I"⟩, 15), (⟨"ThawPointsModel", "isThere", "(I)Z"⟩, 15), (⟨"ThawPointsModel", "get", "(II)I"⟩, 15), (⟨"ThawPointsModel", "fills", "(II)I"⟩, 15), (⟨"ThawPointsModel", "passes", "(I)I"⟩, 15), (⟨"ThawPointsModel", "hindrance", "(II)I"⟩, 15), (⟨"ThawPointsModel", "pointAt", "(II)I"⟩, 15), (⟨"ThawPointsModel", "pointOf", "(III)I"⟩, 15), (⟨"ThawPointsModel", "readingOf", "(II)I"⟩, 15), (⟨"ThawPointsModel", "crosses", "(III)Z"⟩, 15)]
theorem lw_r2 : ∀ q ∈ lw_privs_2, lw_okq q := List.forall_mem_cons.mpr ⟨lw_p16, List.forall_mem_cons.mpr ⟨lw_p17, List.forall_mem_cons.mpr ⟨lw_p18, List.forall_mem_cons.mpr ⟨lw_p19, List.forall_mem_cons.mpr ⟨lw_p20, List.forall_mem_cons.mpr ⟨lw_p21, List.forall_mem_cons.mpr ⟨lw_p22, List.forall_mem_cons.mpr ⟨lw_p23, List.forall_mem_cons.mpr ⟨lw_p24, List.forall_mem_cons.mpr ⟨lw_p25, List.forall_mem_cons.mpr ⟨lw_p26, List.forall_mem_cons.mpr ⟨lw_p27, List.forall_mem_cons.mpr ⟨lw_p28, List.forall_mem_cons.mpr ⟨lw_p29, List.forall_mem_cons.mpr ⟨lw_p30, List.forall_mem_cons.mpr ⟨lw_p31, fun _ h => absurd h List.not_mem_nil⟩⟩⟩⟩⟩⟩⟩⟩⟩⟩⟩⟩⟩⟩⟩⟩
theorem lw_p32 : lw_okq (⟨"ThawPointsModel", "measures", "(II)I"⟩, 15) := ⟨⟨by decide +kernel, by decide +kernel⟩, List.mem_of_getElem? (i := 810) (by decide +kernel), List.mem_of_getElem? (i := 956) (by decide +kernel), List.mem_of_getElem? (i := 957) (by decide +kernel)⟩
theorem lw_p33 : lw_okq (⟨"ThawPointsModel", "drops", "(II)I"⟩, 15) := ⟨⟨by decide +kernel, by decide +kernel⟩, List.mem_of_getElem? (i := 810) (by decide +kernel), List.mem_of_getElem? (i := 960) (by decide +kernel), List.mem_of_getElem? (i := 961) (by decide +kernel)⟩
theorem lw_p34 : lw_okq (⟨"ThawPointsModel", "refusal", "(I)I"⟩, 15) := ⟨⟨by decide +kernel, by decide +kernel⟩, List.mem_of_getElem? (i := 810) (by decide +kernel), List.mem_of_getElem? (i := 972) (by decide +kernel), List.mem_of_getElem? (i := 973) (by decide +kernel)⟩
theorem lw_p35 : lw_okq (⟨"ThawPointsModel", "isOld", "(II)Z"⟩, 15) := ⟨⟨by decide +kernel, by decide +kernel⟩, List.mem_of_getElem? (i := 810) (by decide +kernel), List.mem_of_getElem? (i := 976) (by decide +kernel), List.mem_of_getElem? (i := 977) (by decide +kernel)⟩
theorem lw_p36 : lw_okq (⟨"ThawPointsModel", "isValid", "(I)Z"⟩, 15) := ⟨⟨by decide +kernel, by decide +kernel⟩, List.mem_of_getElem? (i := 810) (by decide +kernel), List.mem_of_getElem? (i := 980) (by decide +kernel), List.mem_of_getElem? (i := 981) (by decide +kernel)⟩
theorem lw_p37 : lw_okq (⟨"ThawPointsModel", "differs", "(I)Z"⟩, 15) := ⟨⟨by decide +kernel, by decide +kernel⟩, List.mem_of_getElem? (i := 810) (by decide +kernel), List.mem_of_getElem? (i := 984) (by decide +kernel), List.mem_of_getElem? (i := 985) (by decide +kernel)⟩
theorem lw_p38 : lw_okq (⟨"ThawPointsModel", "overlapOf", "(III)I"⟩, 15) := ⟨⟨by decide +kernel, by decide +kernel⟩, List.mem_of_getElem? (i := 810) (by decide +kernel), List.mem_of_getElem? (i := 988) (by decide +kernel), List.mem_of_getElem? (i := 989) (by decide +kernel)⟩
theorem lw_p39 : lw_okq (⟨"ThawPointsModel", "areEnough", "(I)Z"⟩, 15) := ⟨⟨by decide +kernel, by decide +kernel⟩, List.mem_of_getElem? (i := 810) (by decide +kernel), List.mem_of_getElem? (i := 992) (by decide +kernel), List.mem_of_getElem? (i := 993) (by decide +kernel)⟩
theorem lw_p40 : lw_okq (⟨"ThawPointsModel", "correction", "(II)I"⟩, 15) := ⟨⟨by decide +kernel, by decide +kernel⟩, List.mem_of_getElem? (i := 810) (by decide +kernel), List.mem_of_getElem? (i := 996) (by decide +kernel), List.mem_of_getElem? (i := 997) (by decide +kernel)⟩
theorem lw_p41 : lw_okq (⟨"ThawPointsModel", "ranked", "(II)I"⟩, 15) := ⟨⟨by decide +kernel, by decide +kernel⟩, List.mem_of_getElem? (i := 810) (by decide +kernel), List.mem_of_getElem? (i := 1000) (by decide +kernel), List.mem_of_getElem? (i := 1001) (by decide +kernel)⟩
theorem lw_p42 : lw_okq (⟨"ThawPointsModel", "seals", "(I)I"⟩, 15) := ⟨⟨by decide +kernel, by decide +kernel⟩, List.mem_of_getElem? (i := 810) (by decide +kernel), List.mem_of_getElem? (i := 1004) (by decide +kernel), List.mem_of_getElem? (i := 1005) (by decide +kernel)⟩
theorem lw_p43 : lw_okq (⟨"ThawPointsModel", "goesThrough", "(Z)I"⟩, 15) := ⟨⟨by decide +kernel, by decide +kernel⟩, List.mem_of_getElem? (i := 810) (by decide +kernel), List.mem_of_getElem? (i := 1020) (by decide +kernel), List.mem_of_getElem? (i := 1021) (by decide +kernel)⟩
theorem lw_p44 : lw_okq (⟨"ThawPointsModel", "readPart", "()V"⟩, 15) := ⟨⟨by decide +kernel, by decide +kernel⟩, List.mem_of_getElem? (i := 810) (by decide +kernel), List.mem_of_getElem? (i := 1024) (by decide +kernel), List.mem_of_getElem? (i := 1025) (by decide +kernel)⟩
theorem lw_p45 : lw_okq (⟨"ThawPointsModel", "signed", "(II)I"⟩, 15) := ⟨⟨by decide +kernel, by decide +kernel⟩, List.mem_of_getElem? (i := 810) (by decide +kernel), List.mem_of_getElem? (i := 1028) (by decide +kernel), List.mem_of_getElem? (i := 1029) (by decide +kernel)⟩
theorem lw_p46 : lw_okq (⟨"ThawPointsModel", "isNext", "(II)Z"⟩, 15) := ⟨⟨by decide +kernel, by decide +kernel⟩, List.mem_of_getElem? (i := 810) (by decide +kernel), List.mem_of_getElem? (i := 1032) (by decide +kernel), List.mem_of_getElem? (i := 1033) (by decide +kernel)⟩
theorem lw_p47 : lw_okq (⟨"ThawPointsModel", "number", "(II)I"⟩, 15) := ⟨⟨by decide +kernel, by decide +kernel⟩, List.mem_of_getElem? (i := 810) (by decide +kernel), List.mem_of_getElem? (i := 1036) (by decide +kernel), List.mem_of_getElem? (i := 1037) (by decide +kernel)⟩
def lw_privs_3 : List (MethodName × Nat) := [(⟨"ThawPointsModel", "measures", "(II)I"⟩, 15), (⟨"ThawPointsModel", "drops", "(II)I"⟩, 15), (⟨"ThawPointsModel", "refusal", "(I)I"⟩, 15), (⟨"ThawPointsModel", "isOld", "(II)Z"⟩, 15), (⟨"ThawPointsModel", "isValid", "(I)Z"⟩, 15), (⟨"ThawPointsModel", "differs", "(I)Z"⟩, 15), (⟨"ThawPointsModel", "overlapOf", "(III)I"⟩, 15), (⟨"ThawPointsModel", "areEnough", "(I)Z"⟩, 15), (⟨"ThawPointsModel", "correction", "(II)I"⟩, 15), (⟨"ThawPointsModel", "ranked", "(II)I"⟩, 15), (⟨"ThawPointsModel", "seals", "(I)I"⟩, 15), (⟨"ThawPointsModel", "goesThrough", "(Z)I"⟩, 15), (⟨"ThawPointsModel", "readPart", "()V"⟩, 15), (⟨"ThawPointsModel", "signed", "(II)I"⟩, 15), (⟨"ThawPointsModel", "isNext", "(II)Z"⟩, 15), (⟨"ThawPointsModel", "number", "(II)I"⟩, 15)]
theorem lw_r3 : ∀ q ∈ lw_privs_3, lw_okq q := List.forall_mem_cons.mpr ⟨lw_p32, List.forall_mem_cons.mpr ⟨lw_p33, List.forall_mem_cons.mpr ⟨lw_p34, List.forall_mem_cons.mpr ⟨lw_p35, List.forall_mem_cons.mpr ⟨lw_p36, List.forall_mem_cons.mpr ⟨lw_p37, List.forall_mem_cons.mpr ⟨lw_p38, List.forall_mem_cons.mpr ⟨lw_p39, List.forall_mem_cons.mpr ⟨lw_p40, List.forall_mem_cons.mpr ⟨lw_p41, List.forall_mem_cons.mpr ⟨lw_p42, List.forall_mem_cons.mpr ⟨lw_p43, List.forall_mem_cons.mpr ⟨lw_p44, List.forall_mem_cons.mpr ⟨lw_p45, List.forall_mem_cons.mpr ⟨lw_p46, List.forall_mem_cons.mpr ⟨lw_p47, fun _ h => absurd h List.not_mem_nil⟩⟩⟩⟩⟩⟩⟩⟩⟩⟩⟩⟩⟩⟩⟩⟩
theorem lw_p48 : lw_okq (⟨"ThawPointsModel", "takes", "(II)I"⟩, 15) := ⟨⟨by decide +kernel, by decide +kernel⟩, List.mem_of_getElem? (i := 810) (by decide +kernel), List.mem_of_getElem? (i := 1040) (by decide +kernel), List.mem_of_getElem? (i := 1041) (by decide +kernel)⟩
theorem lw_p49 : lw_okq (⟨"ThawPointsModel", "reasonOfPart", "()I"⟩, 15) := ⟨⟨by decide +kernel, by decide +kernel⟩, List.mem_of_getElem? (i := 810) (by decide +kernel), List.mem_of_getElem? (i := 1044) (by decide +kernel), List.mem_of_getElem? (i := 1045) (by decide +kernel)⟩
theorem lw_p50 : lw_okq (⟨"ThawPointsModel", "doesPart", "()I"⟩, 15) := ⟨⟨by decide +kernel, by decide +kernel⟩, List.mem_of_getElem? (i := 810) (by decide +kernel), List.mem_of_getElem? (i := 1048) (by decide +kernel), List.mem_of_getElem? (i := 1049) (by decide +kernel)⟩
theorem lw_p51 : lw_okq (⟨"ThawPointsModel", "correctedOr", "(II)I"⟩, 15) := ⟨⟨by decide +kernel, by decide +kernel⟩, List.mem_of_getElem? (i := 810) (by decide +kernel), List.mem_of_getElem? (i := 1080) (by decide +kernel), List.mem_of_getElem? (i := 1081) (by decide +kernel)⟩
theorem lw_p52 : lw_okq (⟨"ThawPointsModel", "ofGlass", "(II)I"⟩, 15) := ⟨⟨by decide +kernel, by decide +kernel⟩, List.mem_of_getElem? (i := 810) (by decide +kernel), List.mem_of_getElem? (i := 1089) (by decide +kernel), List.mem_of_getElem? (i := 1090) (by decide +kernel)⟩
theorem lw_p53 : lw_okq (⟨"ThawPointsModel", "depth", "(I)I"⟩, 15) := ⟨⟨by decide +kernel, by decide +kernel⟩, List.mem_of_getElem? (i := 810) (by decide +kernel), List.mem_of_getElem? (i := 1093) (by decide +kernel), List.mem_of_getElem? (i := 1094) (by decide +kernel)⟩
theorem lw_p54 : lw_okq (⟨"ThawPointsModel", "depthOf", "(II)I"⟩, 15) := ⟨⟨by decide +kernel, by decide +kernel⟩, List.mem_of_getElem? (i := 810) (by decide +kernel), List.mem_of_getElem? (i := 1097) (by decide +kernel), List.mem_of_getElem? (i := 1098) (by decide +kernel)⟩
theorem lw_p55 : lw_okq (⟨"ThawPointsModel", "widest", "(I)I"⟩, 15) := ⟨⟨by decide +kernel, by decide +kernel⟩, List.mem_of_getElem? (i := 810) (by decide +kernel), List.mem_of_getElem? (i := 1103) (by decide +kernel), List.mem_of_getElem? (i := 1104) (by decide +kernel)⟩
theorem lw_p56 : lw_okq (⟨"ThawPointsModel", "ofPoint", "(III)I"⟩, 15) := ⟨⟨by decide +kernel, by decide +kernel⟩, List.mem_of_getElem? (i := 810) (by decide +kernel), List.mem_of_getElem? (i := 1111) (by decide +kernel), List.mem_of_getElem? (i := 1112) (by decide +kernel)⟩
theorem lw_p57 : lw_okq (⟨"ThawPointsModel", "counted", "(I)I"⟩, 15) := ⟨⟨by decide +kernel, by decide +kernel⟩, List.mem_of_getElem? (i := 810) (by decide +kernel), List.mem_of_getElem? (i := 1119) (by decide +kernel), List.mem_of_getElem? (i := 1120) (by decide +kernel)⟩
theorem lw_p58 : lw_okq (⟨"ThawPointsModel", "sumOf", "(I)I"⟩, 15) := ⟨⟨by decide +kernel, by decide +kernel⟩, List.mem_of_getElem? (i := 810) (by decide +kernel), List.mem_of_getElem? (i := 1123) (by decide +kernel), List.mem_of_getElem? (i := 1124) (by decide +kernel)⟩
theorem lw_p59 : lw_okq (⟨"ThawPointsModel", "worst", "(II)I"⟩, 15) := ⟨⟨by decide +kernel, by decide +kernel⟩, List.mem_of_getElem? (i := 810) (by decide +kernel), List.mem_of_getElem? (i := 1139) (by decide +kernel), List.mem_of_getElem? (i := 1140) (by decide +kernel)⟩
theorem lw_p60 : lw_okq (⟨"ThawPointsModel", "yearsUntilVoid", "(I)I"⟩, 15) := ⟨⟨by decide +kernel, by decide +kernel⟩, List.mem_of_getElem? (i := 810) (by decide +kernel), List.mem_of_getElem? (i := 1147) (by decide +kernel), List.mem_of_getElem? (i := 1148) (by decide +kernel)⟩
theorem lw_p61 : lw_okq (⟨"ThawPointsModel", "share", "()D"⟩, 15) := ⟨⟨by decide +kernel, by decide +kernel⟩, List.mem_of_getElem? (i := 810) (by decide +kernel), List.mem_of_getElem? (i := 1155) (by decide +kernel), List.mem_of_getElem? (i := 1156) (by decide +kernel)⟩
theorem lw_p62 : lw_okq (⟨"ThawPointsModel", "digestOne", "(J)V"⟩, 15) := ⟨⟨by decide +kernel, by decide +kernel⟩, List.mem_of_getElem? (i := 810) (by decide +kernel), List.mem_of_getElem? (i := 1164) (by decide +kernel), List.mem_of_getElem? (i := 1165) (by decide +kernel)⟩
theorem lw_p63 : lw_okq (⟨"ThawPointsModel", "digestGlass", "(I)V"⟩, 15) := ⟨⟨by decide +kernel, by decide +kernel⟩, List.mem_of_getElem? (i := 810) (by decide +kernel), List.mem_of_getElem? (i := 1169) (by decide +kernel), List.mem_of_getElem? (i := 1170) (by decide +kernel)⟩
def lw_privs_4 : List (MethodName × Nat) := [(⟨"ThawPointsModel", "takes", "(II)I"⟩, 15), (⟨"ThawPointsModel", "reasonOfPart", "()I"⟩, 15), (⟨"ThawPointsModel", "doesPart", "()I"⟩, 15), (⟨"ThawPointsModel", "correctedOr", "(II)I"⟩, 15), (⟨"ThawPointsModel", "ofGlass", "(II)I"⟩, 15), (⟨"ThawPointsModel", "depth", "(I)I"⟩, 15), (⟨"ThawPointsModel", "depthOf", "(II)I"⟩, 15), (⟨"ThawPointsModel", "widest", "(I)I"⟩, 15), (⟨"ThawPointsModel", "ofPoint", "(III)I"⟩, 15), (⟨"ThawPointsModel", "counted", "(I)I"⟩, 15), (⟨"ThawPointsModel", "sumOf", "(I)I"⟩, 15), (⟨"ThawPointsModel", "worst", "(II)I"⟩, 15), (⟨"ThawPointsModel", "yearsUntilVoid", "(I)I"⟩, 15), (⟨"ThawPointsModel", "share", "()D"⟩, 15), (⟨"ThawPointsModel", "digestOne", "(J)V"⟩, 15), (⟨"ThawPointsModel", "digestGlass", "(I)V"⟩, 15)]
theorem lw_r4 : ∀ q ∈ lw_privs_4, lw_okq q := List.forall_mem_cons.mpr ⟨lw_p48, List.forall_mem_cons.mpr ⟨lw_p49, List.forall_mem_cons.mpr ⟨lw_p50, List.forall_mem_cons.mpr ⟨lw_p51, List.forall_mem_cons.mpr ⟨lw_p52, List.forall_mem_cons.mpr ⟨lw_p53, List.forall_mem_cons.mpr ⟨lw_p54, List.forall_mem_cons.mpr ⟨lw_p55, List.forall_mem_cons.mpr ⟨lw_p56, List.forall_mem_cons.mpr ⟨lw_p57, List.forall_mem_cons.mpr ⟨lw_p58, List.forall_mem_cons.mpr ⟨lw_p59, List.forall_mem_cons.mpr ⟨lw_p60, List.forall_mem_cons.mpr ⟨lw_p61, List.forall_mem_cons.mpr ⟨lw_p62, List.forall_mem_cons.mpr ⟨lw_p63, fun _ h => absurd h List.not_mem_nil⟩⟩⟩⟩⟩⟩⟩⟩⟩⟩⟩⟩⟩⟩⟩⟩
def lw_privs : List (MethodName × Nat) := lw_privs_1 ++ (lw_privs_2 ++ (lw_privs_3 ++ (lw_privs_4)))
def lw_tbl : List Cond := k2_sels lw_privs ++ tables_1
theorem lw_privs_ok : ∀ q ∈ lw_privs, lw_okq q := by
  show ∀ q ∈ lw_privs_1 ++ (lw_privs_2 ++ (lw_privs_3 ++ (lw_privs_4))), lw_okq q
  exact List.forall_mem_append.mpr ⟨lw_r1, List.forall_mem_append.mpr ⟨lw_r2, List.forall_mem_append.mpr ⟨lw_r3, lw_r4⟩⟩⟩
/-- the streams that the claim lets the run draw from -/
abbrev lw_cs : List Choice := [Jvm.Choice.named "NaN.bits"]
theorem lw_bits : nanBits ∈ lw_cs := by first | decide | exact List.mem_cons_self | simp [lw_cs, nanBits]
end
section
/-! ===== BEGIN words of one list among another's, by their places ===== -/
theorem goodIn_r {big : List Cond} (ws : List Cond) (ps : List Nat) (hp : ws = ps.filterMap (fun i => big[i]?)) (h : ws.all goodWord = true) : GoodIn big ws := by
  intro w hw
  have h1 := List.all_eq_true.mp h w hw
  rw [hp] at hw
  obtain ⟨i, -, hi⟩ := List.mem_filterMap.mp hw
  have hm : w ∈ big := by first | exact List.mem_of_getElem? hi | exact List.getElem?_mem hi
  exact ⟨hm, good_of_word h1⟩
theorem goodIn_app {big a b : List Cond} (ha : GoodIn big a) (hb : GoodIn big b) : GoodIn big (a ++ b) := fun w h => (List.mem_append.mp h).elim (ha w) (hb w)
theorem goodIn_ca {big a b : List Cond} {c : Cond} (ha : GoodIn big (c :: a)) (hb : GoodIn big b) : GoodIn big (c :: (a ++ b)) := fun w h => (List.mem_cons.mp h).elim (fun e => ha w (List.mem_cons.mpr (Or.inl e))) (fun h => (List.mem_append.mp h).elim (fun h => ha w (List.mem_cons.mpr (Or.inr h))) (hb w))
theorem goodIn_sub {big ws : List Cond} (hm : ∀ w ∈ ws, w ∈ big) (h : ws.all goodWord = true) : GoodIn big ws := fun w hw => ⟨hm w hw, good_of_word (List.all_eq_true.mp h w hw)⟩
/-! ===== END ===== -/

/-! ===== BEGIN exceptions that leave a method, and their catching by the caller (launches without stack traces) ===== -/
section VXA
/-! The laws vx_back, vx_callV, vx_callS, vx_callSW, vx_throw0, vx_throwS follow proofs of the library, with one case more: JvmDerived/Free/Laws.lean (Back.of_free), Shelf42/LK1.lean (callV, callS), Shelf/KitTraced.lean (throwNew0V, throwNewS). -/
/-- where a method has thrown q: the class by its name, the cell, what was written, the world -/
def vx_T (XC : String → State → State → Prop) (st : State) (q : Addr) (t : State) (mc ms : Nat) (free : Addr → Prop) : Prop :=
  ∃ (E : String) (ce : Cell) (L : List Loc), XC E st t ∧ t.heap[q]? = some ce ∧ ce.vm = .none ∧ st.vm.findClass E = some ce.cls ∧ st.WarmedH t.vm ∧ st.sameButNew ({ t with vm := st.vm } : State) L mc ms ∧ ∀ z ∈ L, free z.base
def vx_Q (Qc : Array Value → State → Outcome → State → Prop) (XC : String → State → State → Prop) (mc ms : Nat) (free : Addr → Prop) : Array Value → State → Outcome → State → Prop := fun a st o t =>
  (Qc a st o t ∧ ∃ L, FrameEnd st o t L mc ms ∧ ∀ q ∈ L, free q.base) ∨ ∃ q, o = .threw q ∧ vx_T XC st q t mc ms free
/-- a callee that returns or throws -/
def vx_Met (l : Launch) (y : MethodName) (ws : List Cond) (rm : Room) (Pc : Array Value → State → Prop) (Qc : Array Value → State → Outcome → State → Prop) (XC : String → State → State → Prop) (mc ms : Nat) (free : Addr → Prop) : Prop :=
  MetFree l y (headSpec ws rm) Pc (fun _ _ _ _ _ => True) (vx_Q Qc XC mc ms free)
def vx_Post (XC : String → State → State → Prop) (mc ms : Nat) (free : Addr → Prop) : Pt → Array Value → Addr → Pt → Prop := fun A a q B =>
  ∃ (g : JFrame) (mk : MethodId) (t : State) (L : List Loc) (E : String) (ce : Cell), B.U.heap = t.heap ∧ B.U.vm = t.vm ∧ XC E (A.U.calling g mk a) t ∧ t.heap[q]? = some ce ∧ ce.vm = .none ∧ A.U.vm.findClass E = some ce.cls ∧ B.locs = A.locs ++ L ∧ (∀ z ∈ L, free z.base) ∧ B.cells = A.cells + mc ∧ B.slots = A.slots + ms
def vx_Back (l : Launch) (R : Room) (p : Program) (e : Env) (below : List Frame) (s : State) (sargs : Array Value) (y : MethodName) (len W9 : Nat)
    (Pre : Pt → Array Value → Prop) (Post : Pt → Array Value → Option Value → Pt → Prop) (PostX : Pt → Array Value → Addr → Pt → Prop) : Prop :=
  ∀ (m : MethodId) (meth : Method) (c : Code) (A : Pt) (g : JFrame) (ig : Instr) (mk : MethodId) (a : Array Value),
    Stand p l e R s m sargs below meth c A.U A.locs A.cells A.slots → g.method = m → g.locals.size = c.maxLocals → decode c.code g.pc = .ok (ig, len) →
    2 * g.monitorRoom + (g.stack.map fun v => v.category).sum ≤ W9 → A.U.methodNamed? y = some mk → Pre A a →
    (∃ (v : Option Value) (B : Pt), Stand p l e R s m sargs below meth c B.U B.locs B.cells B.slots ∧ Post A a v B ∧
      Steps p.tables e below (doInvoke e (A.U.setTop g) [] mk a).1 (B.U.setTop { g with pc := g.pc + len, stack := v.toList ++ g.stack })) ∨
    (∃ (q : Addr) (B : Pt), Stand p l e R s m sargs below meth c B.U B.locs B.cells B.slots ∧ PostX A a q B ∧
      Steps p.tables e below (doInvoke e (A.U.setTop g) [] mk a).1 ((B.U.setTop g).pushFrame (.throwing q)))
section Payer
variable {l : Launch} {R : Room} {p : Program} {e : Env} {below : List Frame} {s : State} {sargs : Array Value} {y : MethodName} {len W9 : Nat}
theorem vx_back {ws : List Cond} {rm : Room} {Pc : Array Value → State → Prop} {Qc : Array Value → State → Outcome → State → Prop} {XC : String → State → State → Prop} {mc ms : Nat} {free : Addr → Prop} {bytes : ByteArray} {maxL : Nat} {ret : Option FieldType}
    (hM : vx_Met l y ws rm Pc Qc XC mc ms free) (hblind : FrameBlind Pc) (hrc : rm.cells = mc) (hrs : rm.slots = ms)
    (hframes : rm.frames + 1 ≤ R.frames) (hlocals : W9 + (maxL + 11) + rm.locals ≤ R.locals)
    (hws : ∀ w ∈ ws, ∀ a' U, s.WarmedH U.vm → w.before a' U = true) (hcode : Cond.code y bytes maxL ret ∈ ws) (hinit : ∀ a' U, s.WarmedH U.vm → (Cond.initialized y.cls).before a' U = true) :
    vx_Back l R p e below s sargs y len W9 (PreOf R mc ms Pc) (PostOf Qc mc ms free) (vx_Post XC mc ms free) := by
  intro m meth c A g ig mk a X hg hsize hdg hW hn hp
  have h1 : (headSpec ws rm).pre.before a A.U = true := atoms_intro fun w hw => hws w hw _ _ X.warmed
  have h2 : (Cond.code y bytes maxL ret).before a A.U = true := hws _ hcode _ _ X.warmed
  have h3 : (Cond.initialized y.cls).before a A.U = true := hinit _ _ X.warmed
  have h4 : A.cells + (headSpec ws rm).room.cells ≤ R.cells := by rw [show (headSpec ws rm).room.cells = mc from hrc]; exact hp.1
  have h5 : A.slots + (headSpec ws rm).room.slots ≤ R.slots := by rw [show (headSpec ws rm).room.slots = ms from hrs]; exact hp.2.1
  have hPc : Pc a (A.U.calling g mk a) := hblind _ _ _ _ hp.2.2
  obtain ⟨U, Ls, c0, s0⟩ := A
  dsimp only [Pt.U, Pt.locs, Pt.cells, Pt.slots] at h1 h2 h3 h4 h5 X hn hPc ⊢
  obtain ⟨methY, cY, hmY, hcY, -, hlY, -, -, -, -⟩ := Cond.code_spec hn h2
  obtain ⟨kY, hkY, -⟩ := className_of_methodNamed hn
  have hinitY : kY.init = .initialized := Cond.initialized_spec (findClass_of_methodNamed hn) hkY h3
  have h : At U g.method c below := by rw [hg]; exact X.here
  have hlocals9 : W9 + (maxL + 11) + (headSpec ws rm).room.locals ≤ R.locals := hlocals
  have happ : (headSpec ws rm).appliesLoose y e.platform (U.calling g mk a) = true :=
    Spec.appliesLoose_calling (g := g) h hdg hn hkY hinitY
      (X.room_calling (g := g) (R' := (headSpec ws rm).room) hsize hmY hcY hframes (by rw [hlY]; omega) h4 h5) h1
  obtain ⟨mid, hmid⟩ := h.above
  have hfr : (U.setTop g).frames = (.java g :: mid) ++ below := by rw [State.frames_setTop' g h.top, hmid]; rfl
  obtain ⟨o, s₂, hsteps, -, hend, hq⟩ := Steps.callFree hM p X.admits X.cas X.clock (acts := []) hfr happ hPc trivial
  have hq' : vx_Q Qc XC mc ms free a (U.calling g mk a) o s₂ := hq
  rw [State.frames_setTop' g h.top] at hend
  obtain ⟨g₀, hg0⟩ := Option.isSome_iff_exists.mp h.top
  obtain ⟨r, hr⟩ := State.topJava?_eq_some.mp hg0
  have hr' : (({ U with heap := s₂.heap, slotsUsed := s₂.slotsUsed } : State).setVm s₂.vm).frames = .java g₀ :: r := hr
  rcases hq' with ⟨hqc, L, hfe, hL⟩ | ⟨q, rfl, E, ce, L, hx, hce, hcv, hcl, hW₂, hsm, hL⟩
  · obtain ⟨⟨v, rfl⟩, hW₂, e2, q2, q3, q4, q5, q6⟩ := id hfe
    have e3 : s₂ = ({ (U.calling g mk a).setFrames s₂.frames with heap := s₂.heap, slotsUsed := s₂.slotsUsed } : State).setVm s₂.vm := by
      have : s₂ = ({ s₂ with vm := (U.calling g mk a).vm } : State).setVm s₂.vm := rfl
      rw [e2] at this
      exact this
    obtain ⟨c₂, i₂, len₂, hc₂, hd₂, hf₂⟩ := hend
    have hW' : U.WarmedH s₂.vm := hW₂
    have hcc : c₂ = c := by
      have h1 : s₂.code? g.method = U.code? g.method := by
        rw [State.code?_eq, State.code?_eq, hW'.alike.method?]
      exact Option.some.inj (hc₂.symm.trans (h1.trans h.code))
    subst hcc
    have hlen : len₂ = len := by rw [hdg] at hd₂; cases hd₂; rfl
    subst hlen
    have hs₂ : s₂ = (({ U with heap := s₂.heap, slotsUsed := s₂.slotsUsed } : State).setVm s₂.vm).setTop { g with pc := g.pc + len₂, stack := v.toList ++ g.stack } := by
      refine e3.trans ?_
      rw [hf₂, State.calling_eq h.top, State.setFrames_setFrames, State.setTop_of_frames _ hr', hr]
      rfl
    have hsame : U.sameButNew ({ U with heap := s₂.heap, slotsUsed := s₂.slotsUsed } : State) L mc ms := by
      refine ⟨?_, q2, q3, q4, q5, q6⟩
      obtain ⟨t, ht, -⟩ := State.frames_cons hr
      show ({ U with heap := s₂.heap, slotsUsed := s₂.slotsUsed } : State) = { U.setFrames U.frames with heap := s₂.heap, slotsUsed := s₂.slotsUsed }
      rw [State.setFrames_self ht]
    subst hg
    refine Or.inl ⟨v, ⟨(({ U with heap := s₂.heap, slotsUsed := s₂.slotsUsed } : State).setVm s₂.vm), Ls ++ L, c0 + mc, s0 + ms⟩,
      ⟨X.admits, X.cas, X.clock, X.frames, X.room, X.hears, X.method, X.code, (X.here.setHeapUsed s₂.heap s₂.slotsUsed).setVm hW'.alike, X.tail, State.WarmedH.trans X.warmed hW', X.limits, X.bytes, X.same.trans (hsame.setVm s.vm)⟩,
      ⟨g, mk, s₂, L, rfl, rfl, hqc, rfl, hL, rfl, rfl⟩, ?_⟩
    show Steps p.tables e below _ ((({ U with heap := s₂.heap, slotsUsed := s₂.slotsUsed } : State).setVm s₂.vm).setTop { g with pc := g.pc + len₂, stack := v.toList ++ g.stack })
    rw [← hs₂]
    exact hsteps
  · obtain ⟨e2, q2, q3, q4, q5, q6⟩ := id hsm
    have e3 : s₂ = ({ (U.calling g mk a).setFrames s₂.frames with heap := s₂.heap, slotsUsed := s₂.slotsUsed } : State).setVm s₂.vm := by
      have : s₂ = ({ s₂ with vm := (U.calling g mk a).vm } : State).setVm s₂.vm := rfl
      rw [e2] at this
      exact this
    have hf₂ : s₂.frames = .throwing q :: .java g :: U.frames.tail := hend
    have hW' : U.WarmedH s₂.vm := hW₂
    have hs₂ : s₂ = ((({ U with heap := s₂.heap, slotsUsed := s₂.slotsUsed } : State).setVm s₂.vm).setTop g).pushFrame (.throwing q) := by
      refine e3.trans ?_
      rw [hf₂, State.calling_eq h.top, State.setFrames_setFrames, State.pushFrame, State.frames_setTop _ hr', State.setTop_of_frames _ hr', State.setFrames_setFrames, hr]
      rfl
    have hsame : U.sameButNew ({ U with heap := s₂.heap, slotsUsed := s₂.slotsUsed } : State) L mc ms := by
      refine ⟨?_, q2, q3, q4, q5, q6⟩
      obtain ⟨t, ht, -⟩ := State.frames_cons hr
      show ({ U with heap := s₂.heap, slotsUsed := s₂.slotsUsed } : State) = { U.setFrames U.frames with heap := s₂.heap, slotsUsed := s₂.slotsUsed }
      rw [State.setFrames_self ht]
    subst hg
    refine Or.inr ⟨q, ⟨(({ U with heap := s₂.heap, slotsUsed := s₂.slotsUsed } : State).setVm s₂.vm), Ls ++ L, c0 + mc, s0 + ms⟩,
      ⟨X.admits, X.cas, X.clock, X.frames, X.room, X.hears, X.method, X.code, (X.here.setHeapUsed s₂.heap s₂.slotsUsed).setVm hW'.alike, X.tail, State.WarmedH.trans X.warmed hW', X.limits, X.bytes, X.same.trans (hsame.setVm s.vm)⟩,
      ⟨g, mk, s₂, L, E, ce, rfl, rfl, hx, hce, hcv, hcl, rfl, hL, rfl, rfl⟩, ?_⟩
    show Steps p.tables e below _ (((({ U with heap := s₂.heap, slotsUsed := s₂.slotsUsed } : State).setVm s₂.vm).setTop g).pushFrame (.throwing q))
    rw [← hs₂]
    exact hsteps
end Payer
section Calls
variable {p : Program} {l : Launch} {e : Env} {R : Room} {s : State} {m : MethodId} {args : Array Value} {below : List Frame} {meth : Method} {c : Code} {T : State} {locs : List Loc} {cells slots : Nat}
theorem vx_callV (X : Stand p l e R s m args below meth c T locs cells slots) (hexec : p.tables.exec = Jvm.exec) {own C : String} {index : Nat} {y : MethodName} {bytes : ByteArray} {maxL : Nat} {ret : Option FieldType}
    (hown : s.vm.findClass own = some m.cls) (hlink : (Cond.methodLink own index y).before args s = true) (hinst : (Cond.instanceMethod y).before args s = true) (hsel : (Cond.selects C y y).before args s = true)
    (hcode : (Cond.code y bytes maxL ret).before args s = true) (hy : y.cls ≠ "java/lang/invoke/MethodHandle" ∧ y.cls ≠ "java/lang/invoke/VarHandle")
    {W9 : Nat} {Pre : Pt → Array Value → Prop} {Post : Pt → Array Value → Option Value → Pt → Prop} {PostX : Pt → Array Value → Addr → Pt → Prop} (hK : vx_Back l R p e below s args y 3 W9 Pre Post PostX)
    {b : Addr} {cellB : Cell} (hcell : T.heap[b]? = some cellB) (hobj : cellB.vm.isStatics = false) (hcls : s.vm.findClass C = some cellB.cls)
    {g : JFrame} (hg : g.method = m) (hsize : g.locals.size = c.maxLocals) {argsL rest : List Value} (hlen : ∀ sig, parseMethodDescriptor y.desc = some sig → argsL.length = sig.parameters.length)
    (hstack : g.stack = argsL.reverse ++ .ref b :: rest) (hW : 2 * g.monitorRoom + (rest.map fun v => v.category).sum ≤ W9) (hdg : decode c.code g.pc = .ok (.invokevirtual index, 3))
    (hpre : ∀ vm₁, s.WarmedH vm₁ → Pre ⟨T.setVm vm₁, locs, cells, slots⟩ (Value.ref b :: argsL).toArray) :
    (∃ (v : Option Value) (vm₁ : Vm) (B : Pt), s.WarmedH vm₁ ∧ Stand p l e R s m args below meth c B.U B.locs B.cells B.slots ∧ Post ⟨T.setVm vm₁, locs, cells, slots⟩ (Value.ref b :: argsL).toArray v B ∧
      ∀ target, Steps p.tables e below (B.U.setTop { g with pc := g.pc + 3, stack := v.toList ++ rest }) target → Steps p.tables e below (T.setTop g) target) ∨
    (∃ (q : Addr) (vm₁ : Vm) (B : Pt), s.WarmedH vm₁ ∧ Stand p l e R s m args below meth c B.U B.locs B.cells B.slots ∧ PostX ⟨T.setVm vm₁, locs, cells, slots⟩ (Value.ref b :: argsL).toArray q B ∧
      Steps p.tables e below (T.setTop g) ((B.U.setTop { g with stack := rest }).pushFrame (.throwing q))) := by
  obtain ⟨mk, methM, hnamed, hmethM, hstM, habM⟩ := Cond.instanceMethod_spec hinst
  obtain ⟨methM', cM, hmethM', -, -, -, -, -, -, hsigM⟩ := Cond.code_spec hnamed hcode
  cases hmethM.symm.trans hmethM'
  obtain ⟨c2, r2, m2, q1, q2, q3, q4, kP, hkP, hkPi⟩ := Cond.selects_spec hsel
  cases hcls.symm.trans q1
  cases (State.methodFound?_of_named hnamed hy).symm.trans q2
  cases hnamed.symm.trans q3
  have hselP : selectMethod e.platform s.vm cellB.cls mk = .method mk := by rw [Launch.admits_selectMethod X.admits]; exact q4
  obtain ⟨vm₁, X₁, hstep₁⟩ := X.invokevirtual hexec hown hlink hnamed hmethM hstM hkP hkPi hy (a := b) (cell := cellB) hcell
    (fun z h => by rw [h] at hobj; cases hobj) hselP hmethM habM hkP hkPi (g := g) hg (argsL := argsL) (rest := rest) (hlen _ hsigM) hstack hdg
  rcases hK m meth c ⟨T.setVm vm₁, locs, cells, slots⟩ { g with stack := rest } (.invokevirtual index) mk (Value.ref b :: argsL).toArray X₁ hg hsize hdg hW (X₁.named hnamed) (hpre vm₁ X₁.warmed) with ⟨v, B, X', hpost, hsteps⟩ | ⟨q, B, X', hpost, hsteps⟩
  · exact Or.inl ⟨v, vm₁, B, X₁.warmed, X', hpost, fun target h => hstep₁ _ fun acts => by rw [doInvoke_state]; exact hsteps.trans h⟩
  · exact Or.inr ⟨q, vm₁, B, X₁.warmed, X', hpost, hstep₁ _ fun acts => by rw [doInvoke_state]; exact hsteps⟩
theorem vx_callS (X : Stand p l e R s m args below meth c T locs cells slots) (hexec : p.tables.exec = Jvm.exec) {own : String} {index : Nat} {y : MethodName} {bytes : ByteArray} {maxL : Nat} {ret : Option FieldType}
    (hown : s.vm.findClass own = some m.cls) (hlink : (Cond.methodLink own index y).before args s = true) (hstat : (Cond.static y).before args s = true) (hinit : (Cond.initialized y.cls).before args s = true)
    (hcode : (Cond.code y bytes maxL ret).before args s = true) (hy : y.cls ≠ "java/lang/invoke/MethodHandle" ∧ y.cls ≠ "java/lang/invoke/VarHandle")
    {W9 : Nat} {Pre : Pt → Array Value → Prop} {Post : Pt → Array Value → Option Value → Pt → Prop} {PostX : Pt → Array Value → Addr → Pt → Prop} (hK : vx_Back l R p e below s args y 3 W9 Pre Post PostX)
    {g : JFrame} (hg : g.method = m) (hsize : g.locals.size = c.maxLocals) {argsL rest : List Value} (hlen : ∀ sig, parseMethodDescriptor y.desc = some sig → argsL.length = sig.parameters.length)
    (hstack : g.stack = argsL.reverse ++ rest) (hW : 2 * g.monitorRoom + (rest.map fun v => v.category).sum ≤ W9) (hdg : decode c.code g.pc = .ok (.invokestatic index, 3))
    (hpre : ∀ vm₁, s.WarmedH vm₁ → Pre ⟨T.setVm vm₁, locs, cells, slots⟩ argsL.toArray) :
    (∃ (v : Option Value) (vm₁ : Vm) (B : Pt), s.WarmedH vm₁ ∧ Stand p l e R s m args below meth c B.U B.locs B.cells B.slots ∧ Post ⟨T.setVm vm₁, locs, cells, slots⟩ argsL.toArray v B ∧
      ∀ target, Steps p.tables e below (B.U.setTop { g with pc := g.pc + 3, stack := v.toList ++ rest }) target → Steps p.tables e below (T.setTop g) target) ∨
    (∃ (q : Addr) (vm₁ : Vm) (B : Pt), s.WarmedH vm₁ ∧ Stand p l e R s m args below meth c B.U B.locs B.cells B.slots ∧ PostX ⟨T.setVm vm₁, locs, cells, slots⟩ argsL.toArray q B ∧
      Steps p.tables e below (T.setTop g) ((B.U.setTop { g with stack := rest }).pushFrame (.throwing q))) := by
  obtain ⟨mk, hnamed⟩ := Cond.code_named hcode
  obtain ⟨methM, cM, hmethM, -, -, -, -, -, -, hsigM⟩ := Cond.code_spec hnamed hcode
  have hstatic : methM.isStatic = true := Cond.static_spec hnamed hmethM hstat
  obtain ⟨kP, hkP, -⟩ := className_of_methodNamed hnamed
  have hinitP : kP.init = .initialized := Cond.initialized_spec (findClass_of_methodNamed hnamed) hkP hinit
  obtain ⟨vm₁, X₁, hstep₁⟩ := X.invokestatic hexec hown hlink hnamed hmethM hstatic hkP hinitP hy (g := g) hg (argsL := argsL) (rest := rest) (hlen _ hsigM) hstack hdg
  rcases hK m meth c ⟨T.setVm vm₁, locs, cells, slots⟩ { g with stack := rest } (.invokestatic index) mk argsL.toArray X₁ hg hsize hdg hW (X₁.named hnamed) (hpre vm₁ X₁.warmed) with ⟨v, B, X', hpost, hsteps⟩ | ⟨q, B, X', hpost, hsteps⟩
  · exact Or.inl ⟨v, vm₁, B, X₁.warmed, X', hpost, fun target h => hstep₁ _ fun acts => by rw [doInvoke_state]; exact hsteps.trans h⟩
  · exact Or.inr ⟨q, vm₁, B, X₁.warmed, X', hpost, hstep₁ _ fun acts => by rw [doInvoke_state]; exact hsteps⟩
end Calls
theorem vx_cls {s : State} {T : State} {vm₁ : Vm} {E : String} {k : ClassId} (hW : s.WarmedH vm₁) (h : (T.setVm vm₁).vm.findClass E = some k) : s.vm.findClass E = some k := by
  have h1 : vm₁.findClass E = some k := h
  rw [hW.alike.findClass] at h1
  exact h1
/-- the method's frame g, with q thrown over it -/
def vx_W (p : Program) (l : Launch) (e : Env) (R : Room) (s : State) (m : MethodId) (args : Array Value) (below : List Frame) (meth : Method) (c : Code) (H : Heap) (locs : List Loc) (cells slots : Nat) (Q : State → Prop) (g : JFrame) (q : Addr) : Prop :=
  ∀ T : State, T.heap = H → Stand p l e R s m args below meth c T locs cells slots → ∃ t, Steps p.tables e below ((T.setTop g).pushFrame (.throwing q)) t ∧ Q t
def vx_Run (p : Program) (l : Launch) (e : Env) (R : Room) (s : State) (m : MethodId) (args : Array Value) (below : List Frame) (meth : Method) (c : Code) (H : Heap) (locs : List Loc) (cells slots mc ms : Nat) (g : JFrame) (rest : List Value) (Qa : State → Outcome → State → Prop) (XC : String → State → State → Prop) (free : Addr → Prop) : Prop :=
  ∀ T : State, T.heap = H → Stand p l e R s m args below meth c T locs cells slots →
    (∃ (v : Option Value) (st₀ t T' : State) (L : List Loc), st₀.heap = H ∧ Stand p l e R s m args below meth c T' (locs ++ L) (cells + mc) (slots + ms) ∧ (∀ q ∈ L, free q.base) ∧ T'.heap = t.heap ∧ T'.vm = t.vm ∧ Qa st₀ (.returned v) t ∧
      Goes p e below T g T' { g with pc := g.pc + 3, stack := v.toList ++ rest }) ∨
    (∃ (q : Addr) (st₀ t T' : State) (L : List Loc) (E : String) (ce : Cell), st₀.heap = H ∧ Stand p l e R s m args below meth c T' (locs ++ L) (cells + mc) (slots + ms) ∧ (∀ z ∈ L, free z.base) ∧ T'.heap = t.heap ∧ T'.vm = t.vm ∧ XC E st₀ t ∧ t.heap[q]? = some ce ∧ ce.vm = .none ∧ s.vm.findClass E = some ce.cls ∧
      Steps p.tables e below (T.setTop g) ((T'.setTop { g with stack := rest }).pushFrame (.throwing q)))
def vx_X {S : Type} (px : S → Prop) (B : String → S → State → Prop) (A : Nat → Prop) : String → State → State → Prop := fun E st t => ∃ u : S, px u ∧ B E u t ∧ va_F A st t
section Runs
variable {p : Program} {l : Launch} {e : Env} {R : Room} {s : State} {m : MethodId} {args : Array Value} {below : List Frame} {meth : Method} {c : Code} {H : Heap} {locs : List Loc} {cells slots : Nat}
variable {y : MethodName} {bytes cc : ByteArray} {maxL nL mc ms n index : Nat} {ret : Option FieldType} {ws : List Cond} {rm : Room} {Pc : Array Value → State → Prop} {Qc : Array Value → State → Outcome → State → Prop} {XC : String → State → State → Prop} {free : Addr → Prop} {Ts : List Cond} {own C : String} {b : Addr} {As rest : List Value} {g : JFrame}
theorem vx_callBack (cb : CallB R s args own index y bytes maxL ret ws rm mc ms n) (hM : vx_Met l y ws rm Pc Qc XC mc ms free) (hbl : FrameBlind Pc) : vx_Back l R p e below s args y 3 8 (PreOf R mc ms Pc) (PostOf Qc mc ms free) (vx_Post XC mc ms free) := by
  obtain ⟨hrc, hrs, hfr, hlo, hws, hcw, -, hini, -⟩ := cb
  exact vx_back (bytes := bytes) (maxL := maxL) (ret := ret) hM hbl hrc hrs hfr hlo hws hcw (fun a' U hW => word_at hW (Or.inl (by first | rfl | simp [Cond.onTables, Cond.keeps, Cond.steady])) hini)
theorem vx_runV (S : CallFix p m c cc nL s args Ts own) (hM : vx_Met l y ws rm Pc Qc XC mc ms free) (cw : CallW R s args own C index y bytes maxL ret ws rm mc ms n) (hp : PreV s H C b Pc As)
    (hg : g.method = m) (hn : As.length = n) (hsize : g.locals.size = nL) (hstack : g.stack = As.reverse ++ .ref b :: rest) (hW : 2 * g.monitorRoom + (rest.map fun v => v.category).sum ≤ 8) (hdg : decode cc g.pc = .ok (.invokevirtual index, 3)) (hf : cells + mc ≤ R.cells ∧ slots + ms ≤ R.slots) :
    vx_Run p l e R s m args below meth c H locs cells slots mc ms g rest (Qc (Value.ref b :: As).toArray) XC free := by
  have hK : vx_Back l R p e below s args y 3 8 (PreOf R mc ms Pc) (PostOf Qc mc ms free) (vx_Post XC mc ms free) := vx_callBack cw.1 hM hp.1
  obtain ⟨⟨-, -, -, -, -, -, hcode, -, hy, hlen, hl⟩, hin, hse⟩ := cw
  obtain ⟨hx, hb, hml, ho, -⟩ := S
  obtain ⟨-, ⟨cellB, hcB, hoB, hclB⟩, hPc⟩ := hp
  intro T hT X
  rcases vx_callV X hx (C := C) (bytes := bytes) (maxL := maxL) (ret := ret) ho hl hin hse hcode hy hK (by rw [hT]; exact hcB) hoB hclB hg (hsize.trans hml.symm) (argsL := As) (rest := rest) (fun sig h => hn.trans (hlen sig h)) hstack hW (by rw [hb]; exact hdg)
    (fun vm₁ hW₁ => ⟨hf.1, hf.2, hPc (T.setVm vm₁) hT hW₁⟩) with ⟨v, vm₁, ⟨U', l2, c2, s2⟩, hW₁, X', ⟨g', mk, t, L, e1, e2, hq, h1, hL, h2, h3⟩, st⟩ | ⟨q, vm₁, ⟨U', l2, c2, s2⟩, hW₁, X', ⟨g', mk, t, L, E, ce, e1, e2, hq, hce, hcv, hcl, h1, hL, h2, h3⟩, st⟩
  · dsimp only [Pt.U, Pt.locs, Pt.cells, Pt.slots] at X' e1 e2 h1 h2 h3 st
    subst h1; subst h2; subst h3
    exact Or.inl ⟨v, (T.setVm vm₁).calling g' mk (Value.ref b :: As).toArray, t, U', L, hT, X', hL, e1, e2, hq, st⟩
  · dsimp only [Pt.U, Pt.locs, Pt.cells, Pt.slots] at X' e1 e2 h1 h2 h3 st hcl
    subst h1; subst h2; subst h3
    exact Or.inr ⟨q, (T.setVm vm₁).calling g' mk (Value.ref b :: As).toArray, t, U', L, E, ce, hT, X', hL, e1, e2, hq, hce, hcv, vx_cls hW₁ hcl, st⟩
theorem vx_runS (S : CallFix p m c cc nL s args Ts own) (hM : vx_Met l y ws rm Pc Qc XC mc ms free) (cw : CallB R s args own index y bytes maxL ret ws rm mc ms n ∧ (Cond.static y).before args s = true) (hp : PreS s H Pc As)
    (hg : g.method = m) (hn : As.length = n) (hsize : g.locals.size = nL) (hstack : g.stack = As.reverse ++ rest) (hW : 2 * g.monitorRoom + (rest.map fun v => v.category).sum ≤ 8) (hdg : decode cc g.pc = .ok (.invokestatic index, 3)) (hf : cells + mc ≤ R.cells ∧ slots + ms ≤ R.slots) :
    vx_Run p l e R s m args below meth c H locs cells slots mc ms g rest (Qc As.toArray) XC free := by
  have hK : vx_Back l R p e below s args y 3 8 (PreOf R mc ms Pc) (PostOf Qc mc ms free) (vx_Post XC mc ms free) := vx_callBack cw.1 hM hp.1
  obtain ⟨⟨-, -, -, -, -, -, hcode, hini, hy, hlen, hl⟩, hstt⟩ := cw
  obtain ⟨hx, hb, hml, ho, -⟩ := S
  intro T hT X
  rcases vx_callS X hx (bytes := bytes) (maxL := maxL) (ret := ret) ho hl hstt hini hcode hy hK hg (hsize.trans hml.symm) (argsL := As) (rest := rest) (fun sig h => hn.trans (hlen sig h)) hstack hW (by rw [hb]; exact hdg)
    (fun vm₁ hW₁ => ⟨hf.1, hf.2, hp.2 (T.setVm vm₁) hT hW₁⟩) with ⟨v, vm₁, ⟨U', l2, c2, s2⟩, hW₁, X', ⟨g', mk, t, L, e1, e2, hq, h1, hL, h2, h3⟩, st⟩ | ⟨q, vm₁, ⟨U', l2, c2, s2⟩, hW₁, X', ⟨g', mk, t, L, E, ce, e1, e2, hq, hce, hcv, hcl, h1, hL, h2, h3⟩, st⟩
  · dsimp only [Pt.U, Pt.locs, Pt.cells, Pt.slots] at X' e1 e2 h1 h2 h3 st
    subst h1; subst h2; subst h3
    exact Or.inl ⟨v, (T.setVm vm₁).calling g' mk As.toArray, t, U', L, hT, X', hL, e1, e2, hq, st⟩
  · dsimp only [Pt.U, Pt.locs, Pt.cells, Pt.slots] at X' e1 e2 h1 h2 h3 st hcl
    subst h1; subst h2; subst h3
    exact Or.inr ⟨q, (T.setVm vm₁).calling g' mk As.toArray, t, U', L, E, ce, hT, X', hL, e1, e2, hq, hce, hcv, vx_cls hW₁ hcl, st⟩
end Runs
section Rows
variable {p : Program} {l : Launch} {e : Env} {R : Room} {s : State} {m : MethodId} {args : Array Value} {below : List Frame} {meth : Method} {c : Code} {H : Heap} {locs : List Loc} {cells slots : Nat} {Q : State → Prop}
variable {mc ms : Nat} {free : Addr → Prop} {A0 A1 : Nat → Prop} {H0 : Heap} {a : Array Value} {pc : Nat} {ls : Array Slot} {st0 rest : List Value}
theorem vx_keep {st₀ t T' : State} {L : List Loc} (h0 : st₀.heap = H) (e1 : T'.heap = t.heap) (hS : va_S A0 H0 H locs) (hA : ∀ q, q < H.size → A1 q → A0 q) (hf : ∀ q, free q → A0 q) (hL : ∀ q ∈ L, free q.base) (hF : va_F A1 st₀ t) :
    H.size ≤ T'.heap.size ∧ (∀ q : Nat, q < H.size → ¬ A1 q → T'.heap[q]? = H[q]?) ∧ va_S A0 H0 T'.heap (locs ++ L) := by
  obtain ⟨hz, hk⟩ := hF
  rw [h0] at hz hk
  exact ⟨by rw [e1]; exact hz, fun q h1 h2 => by rw [e1]; exact hk q h1 h2,
    ⟨Nat.le_trans hS.1 (by rw [e1]; exact hz), fun q h1 h2 => by rw [e1, hk q (Nat.lt_of_lt_of_le h1 hS.1) (fun z => h2 (hA q (Nat.lt_of_lt_of_le h1 hS.1) z))]; exact hS.2.1 q h1 h2, fun q hq => by
      rcases List.mem_append.mp hq with h | h
      · exact hS.2.2 q h
      · exact hf _ (hL q h)⟩⟩
theorem vx_calli {S SX : Type} {post : Int32 → S → Prop} {px : SX → Prop} {B : S → State → Prop} {BX : String → SX → State → Prop} {AX : Nat → Prop} (hr : vx_Run p l e R s m args below meth c H locs cells slots mc ms (F0 m pc ls st0) rest (va_Qi post B A1 a) (vx_X px BX AX) free) (hS : va_S A0 H0 H locs) (hA : ∀ q, q < H.size → A1 q → A0 q) (hf : ∀ q, free q → A0 q) (hAX : ∀ q, q < H.size → AX q → A0 q)
    (kx : ∀ (E : String) (ce : Cell) (q9 : Addr) (u : SX) (t : State) (H1 : Heap) (locs1 : List Loc), t.heap = H1 → s.vm.Alike t.vm → px u → BX E u t → H.size ≤ H1.size → (∀ q : Nat, q < H.size → ¬ AX q → H1[q]? = H[q]?) → va_S A0 H0 H1 locs1 → H1[q9]? = some ce → ce.vm = .none → s.vm.findClass E = some ce.cls → vx_W p l e R s m args below meth c H1 locs1 (cells + mc) (slots + ms) Q (F0 m pc ls rest) q9)
    (kk : ∀ (r : Int32) (u : S) (t : State) (H1 : Heap) (locs1 : List Loc), t.heap = H1 → s.vm.Alike t.vm → post r u → B u t → H.size ≤ H1.size → (∀ q : Nat, q < H.size → ¬ A1 q → H1[q]? = H[q]?) → va_S A0 H0 H1 locs1 → W p l e R s m args below meth c H1 locs1 (cells + mc) (slots + ms) Q (F0 m (pc + 3) ls (.int r :: rest))) : W p l e R s m args below meth c H locs cells slots Q (F0 m pc ls st0) := by
  intro T hT X
  rcases hr T hT X with ⟨v, st₀, t, T', L, h0, X', hL, e1, e2, ⟨⟨r, u, hv, hp, hb⟩, hF⟩, st⟩ | ⟨q, st₀, t, T', L, E, ce, h0, X', hL, e1, e2, ⟨u, hp, hb, hF⟩, hce, hcv, hcl, st⟩
  · cases hv
    obtain ⟨k1, k2, k3⟩ := vx_keep h0 e1 hS hA hf hL hF
    obtain ⟨t2, a1, b1⟩ := kk r u t T'.heap (locs ++ L) e1.symm (by rw [← e2]; exact X'.warmed.alike) hp hb k1 k2 k3 T' rfl X'
    exact ⟨t2, st t2 a1, b1⟩
  · obtain ⟨k1, k2, k3⟩ := vx_keep h0 e1 hS hAX hf hL hF
    obtain ⟨t2, a1, b1⟩ := kx E ce q u t T'.heap (locs ++ L) e1.symm (by rw [← e2]; exact X'.warmed.alike) hp hb k1 k2 k3 (by rw [e1]; exact hce) hcv hcl T' rfl X'
    exact ⟨t2, st.trans a1, b1⟩
theorem vx_calll {S SX : Type} {post : Int64 → S → Prop} {px : SX → Prop} {B : S → State → Prop} {BX : String → SX → State → Prop} {AX : Nat → Prop} (hr : vx_Run p l e R s m args below meth c H locs cells slots mc ms (F0 m pc ls st0) rest (va_Ql post B A1 a) (vx_X px BX AX) free) (hS : va_S A0 H0 H locs) (hA : ∀ q, q < H.size → A1 q → A0 q) (hf : ∀ q, free q → A0 q) (hAX : ∀ q, q < H.size → AX q → A0 q)
    (kx : ∀ (E : String) (ce : Cell) (q9 : Addr) (u : SX) (t : State) (H1 : Heap) (locs1 : List Loc), t.heap = H1 → s.vm.Alike t.vm → px u → BX E u t → H.size ≤ H1.size → (∀ q : Nat, q < H.size → ¬ AX q → H1[q]? = H[q]?) → va_S A0 H0 H1 locs1 → H1[q9]? = some ce → ce.vm = .none → s.vm.findClass E = some ce.cls → vx_W p l e R s m args below meth c H1 locs1 (cells + mc) (slots + ms) Q (F0 m pc ls rest) q9)
    (kk : ∀ (r : Int64) (u : S) (t : State) (H1 : Heap) (locs1 : List Loc), t.heap = H1 → s.vm.Alike t.vm → post r u → B u t → H.size ≤ H1.size → (∀ q : Nat, q < H.size → ¬ A1 q → H1[q]? = H[q]?) → va_S A0 H0 H1 locs1 → W p l e R s m args below meth c H1 locs1 (cells + mc) (slots + ms) Q (F0 m (pc + 3) ls (.long r :: rest))) : W p l e R s m args below meth c H locs cells slots Q (F0 m pc ls st0) := by
  intro T hT X
  rcases hr T hT X with ⟨v, st₀, t, T', L, h0, X', hL, e1, e2, ⟨⟨r, u, hv, hp, hb⟩, hF⟩, st⟩ | ⟨q, st₀, t, T', L, E, ce, h0, X', hL, e1, e2, ⟨u, hp, hb, hF⟩, hce, hcv, hcl, st⟩
  · cases hv
    obtain ⟨k1, k2, k3⟩ := vx_keep h0 e1 hS hA hf hL hF
    obtain ⟨t2, a1, b1⟩ := kk r u t T'.heap (locs ++ L) e1.symm (by rw [← e2]; exact X'.warmed.alike) hp hb k1 k2 k3 T' rfl X'
    exact ⟨t2, st t2 a1, b1⟩
  · obtain ⟨k1, k2, k3⟩ := vx_keep h0 e1 hS hAX hf hL hF
    obtain ⟨t2, a1, b1⟩ := kx E ce q u t T'.heap (locs ++ L) e1.symm (by rw [← e2]; exact X'.warmed.alike) hp hb k1 k2 k3 (by rw [e1]; exact hce) hcv hcl T' rfl X'
    exact ⟨t2, st.trans a1, b1⟩
theorem vx_callf {S SX : Type} {post : UInt32 → S → Prop} {px : SX → Prop} {B : S → State → Prop} {BX : String → SX → State → Prop} {AX : Nat → Prop} (hr : vx_Run p l e R s m args below meth c H locs cells slots mc ms (F0 m pc ls st0) rest (va_Qf post B A1 a) (vx_X px BX AX) free) (hS : va_S A0 H0 H locs) (hA : ∀ q, q < H.size → A1 q → A0 q) (hf : ∀ q, free q → A0 q) (hAX : ∀ q, q < H.size → AX q → A0 q)
    (kx : ∀ (E : String) (ce : Cell) (q9 : Addr) (u : SX) (t : State) (H1 : Heap) (locs1 : List Loc), t.heap = H1 → s.vm.Alike t.vm → px u → BX E u t → H.size ≤ H1.size → (∀ q : Nat, q < H.size → ¬ AX q → H1[q]? = H[q]?) → va_S A0 H0 H1 locs1 → H1[q9]? = some ce → ce.vm = .none → s.vm.findClass E = some ce.cls → vx_W p l e R s m args below meth c H1 locs1 (cells + mc) (slots + ms) Q (F0 m pc ls rest) q9)
    (kk : ∀ (r : UInt32) (u : S) (t : State) (H1 : Heap) (locs1 : List Loc), t.heap = H1 → s.vm.Alike t.vm → post r u → B u t → H.size ≤ H1.size → (∀ q : Nat, q < H.size → ¬ A1 q → H1[q]? = H[q]?) → va_S A0 H0 H1 locs1 → W p l e R s m args below meth c H1 locs1 (cells + mc) (slots + ms) Q (F0 m (pc + 3) ls (.float r :: rest))) : W p l e R s m args below meth c H locs cells slots Q (F0 m pc ls st0) := by
  intro T hT X
  rcases hr T hT X with ⟨v, st₀, t, T', L, h0, X', hL, e1, e2, ⟨⟨r, u, hv, hp, hb⟩, hF⟩, st⟩ | ⟨q, st₀, t, T', L, E, ce, h0, X', hL, e1, e2, ⟨u, hp, hb, hF⟩, hce, hcv, hcl, st⟩
  · cases hv
    obtain ⟨k1, k2, k3⟩ := vx_keep h0 e1 hS hA hf hL hF
    obtain ⟨t2, a1, b1⟩ := kk r u t T'.heap (locs ++ L) e1.symm (by rw [← e2]; exact X'.warmed.alike) hp hb k1 k2 k3 T' rfl X'
    exact ⟨t2, st t2 a1, b1⟩
  · obtain ⟨k1, k2, k3⟩ := vx_keep h0 e1 hS hAX hf hL hF
    obtain ⟨t2, a1, b1⟩ := kx E ce q u t T'.heap (locs ++ L) e1.symm (by rw [← e2]; exact X'.warmed.alike) hp hb k1 k2 k3 (by rw [e1]; exact hce) hcv hcl T' rfl X'
    exact ⟨t2, st.trans a1, b1⟩
theorem vx_calld {S SX : Type} {post : UInt64 → S → Prop} {px : SX → Prop} {B : S → State → Prop} {BX : String → SX → State → Prop} {AX : Nat → Prop} (hr : vx_Run p l e R s m args below meth c H locs cells slots mc ms (F0 m pc ls st0) rest (va_Qd post B A1 a) (vx_X px BX AX) free) (hS : va_S A0 H0 H locs) (hA : ∀ q, q < H.size → A1 q → A0 q) (hf : ∀ q, free q → A0 q) (hAX : ∀ q, q < H.size → AX q → A0 q)
    (kx : ∀ (E : String) (ce : Cell) (q9 : Addr) (u : SX) (t : State) (H1 : Heap) (locs1 : List Loc), t.heap = H1 → s.vm.Alike t.vm → px u → BX E u t → H.size ≤ H1.size → (∀ q : Nat, q < H.size → ¬ AX q → H1[q]? = H[q]?) → va_S A0 H0 H1 locs1 → H1[q9]? = some ce → ce.vm = .none → s.vm.findClass E = some ce.cls → vx_W p l e R s m args below meth c H1 locs1 (cells + mc) (slots + ms) Q (F0 m pc ls rest) q9)
    (kk : ∀ (r : UInt64) (u : S) (t : State) (H1 : Heap) (locs1 : List Loc), t.heap = H1 → s.vm.Alike t.vm → post r u → B u t → H.size ≤ H1.size → (∀ q : Nat, q < H.size → ¬ A1 q → H1[q]? = H[q]?) → va_S A0 H0 H1 locs1 → W p l e R s m args below meth c H1 locs1 (cells + mc) (slots + ms) Q (F0 m (pc + 3) ls (.double r :: rest))) : W p l e R s m args below meth c H locs cells slots Q (F0 m pc ls st0) := by
  intro T hT X
  rcases hr T hT X with ⟨v, st₀, t, T', L, h0, X', hL, e1, e2, ⟨⟨r, u, hv, hp, hb⟩, hF⟩, st⟩ | ⟨q, st₀, t, T', L, E, ce, h0, X', hL, e1, e2, ⟨u, hp, hb, hF⟩, hce, hcv, hcl, st⟩
  · cases hv
    obtain ⟨k1, k2, k3⟩ := vx_keep h0 e1 hS hA hf hL hF
    obtain ⟨t2, a1, b1⟩ := kk r u t T'.heap (locs ++ L) e1.symm (by rw [← e2]; exact X'.warmed.alike) hp hb k1 k2 k3 T' rfl X'
    exact ⟨t2, st t2 a1, b1⟩
  · obtain ⟨k1, k2, k3⟩ := vx_keep h0 e1 hS hAX hf hL hF
    obtain ⟨t2, a1, b1⟩ := kx E ce q u t T'.heap (locs ++ L) e1.symm (by rw [← e2]; exact X'.warmed.alike) hp hb k1 k2 k3 (by rw [e1]; exact hce) hcv hcl T' rfl X'
    exact ⟨t2, st.trans a1, b1⟩
theorem vx_callv {S SX : Type} {post : S → Prop} {px : SX → Prop} {B : S → State → Prop} {BX : String → SX → State → Prop} {AX : Nat → Prop} (hr : vx_Run p l e R s m args below meth c H locs cells slots mc ms (F0 m pc ls st0) rest (va_Qv post B A1 a) (vx_X px BX AX) free) (hS : va_S A0 H0 H locs) (hA : ∀ q, q < H.size → A1 q → A0 q) (hf : ∀ q, free q → A0 q) (hAX : ∀ q, q < H.size → AX q → A0 q)
    (kx : ∀ (E : String) (ce : Cell) (q9 : Addr) (u : SX) (t : State) (H1 : Heap) (locs1 : List Loc), t.heap = H1 → s.vm.Alike t.vm → px u → BX E u t → H.size ≤ H1.size → (∀ q : Nat, q < H.size → ¬ AX q → H1[q]? = H[q]?) → va_S A0 H0 H1 locs1 → H1[q9]? = some ce → ce.vm = .none → s.vm.findClass E = some ce.cls → vx_W p l e R s m args below meth c H1 locs1 (cells + mc) (slots + ms) Q (F0 m pc ls rest) q9)
    (kk : ∀ (u : S) (t : State) (H1 : Heap) (locs1 : List Loc), t.heap = H1 → s.vm.Alike t.vm → post u → B u t → H.size ≤ H1.size → (∀ q : Nat, q < H.size → ¬ A1 q → H1[q]? = H[q]?) → va_S A0 H0 H1 locs1 → W p l e R s m args below meth c H1 locs1 (cells + mc) (slots + ms) Q (F0 m (pc + 3) ls (rest))) : W p l e R s m args below meth c H locs cells slots Q (F0 m pc ls st0) := by
  intro T hT X
  rcases hr T hT X with ⟨v, st₀, t, T', L, h0, X', hL, e1, e2, ⟨⟨u, hv, hp, hb⟩, hF⟩, st⟩ | ⟨q, st₀, t, T', L, E, ce, h0, X', hL, e1, e2, ⟨u, hp, hb, hF⟩, hce, hcv, hcl, st⟩
  · cases hv
    obtain ⟨k1, k2, k3⟩ := vx_keep h0 e1 hS hA hf hL hF
    obtain ⟨t2, a1, b1⟩ := kk u t T'.heap (locs ++ L) e1.symm (by rw [← e2]; exact X'.warmed.alike) hp hb k1 k2 k3 T' rfl X'
    exact ⟨t2, st t2 a1, b1⟩
  · obtain ⟨k1, k2, k3⟩ := vx_keep h0 e1 hS hAX hf hL hF
    obtain ⟨t2, a1, b1⟩ := kx E ce q u t T'.heap (locs ++ L) e1.symm (by rw [← e2]; exact X'.warmed.alike) hp hb k1 k2 k3 (by rw [e1]; exact hce) hcv hcl T' rfl X'
    exact ⟨t2, st.trans a1, b1⟩
/-- caught by the row x of this method's table; the rows ahead don't take it -/
theorem vx_catch {own name : String} {E : String} {ce : Cell} {q : Addr} (hown : s.vm.findClass own = some m.cls) (pre : List ExceptionTableEntry) (x : ExceptionTableEntry) (suf : List ExceptionTableEntry) (hsplit : c.exceptionTable.toList = pre ++ x :: suf)
    (hpass : ∀ z ∈ pre, covers z pc = false ∨ (z.catchType ≠ 0 ∧ ∃ nm : String, (Cond.classLink own z.catchType nm).before args s = true ∧ va_Nc E nm s)) (hx : covers x pc = true) (h0 : x.catchType ≠ 0)
    (hlink : (Cond.classLink own x.catchType name).before args s = true) (hcast : (Cond.castable E name).before args s = true) (hcell : H[q]? = some ce) (hv : ce.vm = .none) (hcl : s.vm.findClass E = some ce.cls)
    (kk : W p l e R s m args below meth c H locs cells slots Q (F0 m x.handlerPc ls [.ref q])) : vx_W p l e R s m args below meth c H locs cells slots Q (F0 m pc ls rest) q := by
  intro T hT X
  have hpl : e.platform.magicAccessors = ({} : Platform).magicAccessors := by rw [X.admits.platform]
  obtain ⟨c3, c4, hc3, hc4, hasg⟩ := Cond.castable_spec hcast
  cases Option.some.inj (hc3.symm.trans hcl)
  obtain ⟨c5, hc5, hcl5⟩ := Cond.classLink_spec hown hlink e.platform hpl
  cases Option.some.inj (hc4.symm.trans hc5)
  obtain ⟨vm', X', st⟩ := X.thenCaughtThrough q (g := F0 m pc ls rest) rfl (Steps.refl _) (by rw [hT]; exact hcell) (by rw [hv]; rfl) (by obtain ⟨k9, h9, -⟩ := Vm.findClass_spec hcl; exact ⟨k9, h9⟩) pre x suf hsplit
    (fun z hz => by
      rcases hpass z hz with h | ⟨hz0, nm, hl1, hn1⟩
      · exact Or.inl h
      · obtain ⟨c6, hc6, hcl6⟩ := Cond.classLink_spec hown hl1 e.platform hpl
        obtain ⟨a8, b8, h1, h2, h3⟩ := hn1
        cases Option.some.inj (h1.symm.trans hcl)
        cases Option.some.inj (h2.symm.trans hc6)
        exact Or.inr ⟨hz0, _, hcl6, h3⟩) hx (Or.inr ⟨h0, c4, hcl5, hasg⟩)
  obtain ⟨t, a1, b1⟩ := kk (T.setVm vm') hT X'
  exact ⟨t, st.trans a1, b1⟩
end Rows
section Ends
variable {p : Program} {l : Launch} {e : Env} {R : Room} {s : State} {m : MethodId} {args : Array Value} {below : List Frame} {meth : Method} {c : Code} {H : Heap} {locs : List Loc} {cells slots : Nat} {Q : State → Prop}
variable {mc ms : Nat} {free : Addr → Prop} {A0 A1 : Nat → Prop} {H0 : Heap} {a : Array Value} {ls : Array Slot} {st0 rest : List Value}
variable {Qc : Array Value → State → Outcome → State → Prop} {XC : String → State → State → Prop}
/-- what a body that may throw owes at its end -/
def vx_MQ (below : List Frame) (Qc : Array Value → State → Outcome → State → Prop) (XC : String → State → State → Prop) (a : Array Value) (s : State) (mc ms : Nat) (free : Addr → Prop) : State → Prop := fun t =>
  ∃ o, t.status = .running ∧ Ended t below o ∧ vx_Q Qc XC mc ms free a s o t
theorem vx_ret {g : JFrame} {mc ms : Nat} (k : W p l e R s m args below meth c H locs cells slots (MQ below Qc args s mc ms free) g) : W p l e R s m args below meth c H locs cells slots (vx_MQ below Qc XC args s mc ms free) g := by
  intro T hT X
  obtain ⟨t, a1, o, b1, b2, b3, b4⟩ := k T hT X
  exact ⟨t, a1, o, b1, b2, Or.inl ⟨b3, b4⟩⟩
/-- not caught here: it goes on to the caller -/
theorem vx_widen {g : JFrame} {q : Addr} {k n : Nat} (h1 : cells ≤ k) (h2 : slots ≤ n) (kk : vx_W p l e R s m args below meth c H locs k n Q g q) : vx_W p l e R s m args below meth c H locs cells slots Q g q := fun T hT X => kk T hT (stand_widen X h1 h2)
theorem vx_out {pc : Nat} {E : String} {ce : Cell} {q : Addr} {mc ms : Nat} (hout : ∀ x ∈ c.exceptionTable.toList, covers x pc = false) (hlocks : meth.locks = false) (hcell : H[q]? = some ce) (hv : ce.vm = .none) (hcl : s.vm.findClass E = some ce.cls)
    (hx : ∀ t : State, t.heap = H → s.vm.Alike t.vm → XC E s t) (hf : ∀ z ∈ locs, free z.base) (hc : cells ≤ mc) (hs : slots ≤ ms) :
    vx_W p l e R s m args below meth c H locs cells slots (vx_MQ below Qc XC args s mc ms free) (F0 m pc ls rest) q := by
  intro T hT X
  obtain ⟨st1, hrun, hend, hW, hsm⟩ := X.leaveThrown q (g := F0 m pc ls rest) rfl rfl rfl hout hlocks
  have hcell9 : (T.setFrames (.throwing q :: below)).heap[q]? = some ce := by
    show T.heap[q]? = some ce
    rw [hT]; exact hcell
  exact ⟨_, st1, .threw q, hrun, hend, Or.inr ⟨q, rfl, E, ce, locs, hx _ hT hW.alike, hcell9, hv, hcl, hW, hsm.mono hc hs, hf⟩⟩
theorem vx_frame {U : State} {k n : Nat} (h : s.sameButNew ({ U with vm := s.vm } : State) locs k n) : s.heap.size ≤ U.heap.size ∧ ∀ q : Nat, q < s.heap.size → (∀ z ∈ locs, z.base ≠ q) → U.heap[q]? = s.heap[q]? := by
  obtain ⟨-, h2, -, -, -, h6⟩ := h
  refine ⟨h2, fun q hq hz => ?_⟩
  obtain ⟨c9, e1, e2, e3, e4⟩ := h6 q _ (Array.getElem?_eq_getElem hq)
  have hs : c9.slots = (s.heap[q]).slots := Array.ext_getElem? fun i => e4 i fun hm => hz _ hm rfl
  have h9 : c9 = s.heap[q] := by
    rw [hs] at e2
    exact e2
  have e5 : U.heap[q]? = some c9 := e1
  rw [e5, h9, Array.getElem?_eq_getElem hq]
/-- the words of a throw but the four that speak of the heap -/
def vx_no (w : Cond) : Bool := decide (w ≠ .isRef (.static Bundle.tN "UNASSIGNED_STACK" Bundle.steD)) && decide (w ≠ .isRef (.static Bundle.tN "SUPPRESSED_SENTINEL" Bundle.listD)) && decide (w ≠ .laysStatic Bundle.tN "UNASSIGNED_STACK" Bundle.steD) && decide (w ≠ .laysStatic Bundle.tN "SUPPRESSED_SENTINEL" Bundle.listD)
def vx_at0 (own : String) (ic : Nat) (X : String) (names : List String) : List Cond := (Bundle.ownAtoms0 own ic X names).filter vx_no
def vx_atS (own : String) (ic : Nat) (X : String) (names : List String) : List Cond := (Bundle.ownAtoms own ic X names).filter vx_no
/-- a word that the tables alone decide, or a good one -/
def vx_ot (w : Cond) : Bool := w.onTables || goodWord w
theorem vx_ot_at {args a' : Array Value} {s U : State} {w : Cond} (hW : s.WarmedH U.vm) (hvm : s.vm = U.vm) (hg : vx_ot w = true) (h : w.before args s = true) : w.before a' U = true := by
  simp only [vx_ot, Bool.or_eq_true] at hg
  rcases hg with hg | hg
  · exact va_tabs hg hvm h
  · exact word_at hW (good_of_word hg) h
/-- a list's words: the good ones out of the method's own list, the others by premises of their own -/
theorem vx_hat {args : Array Value} {s : State} {L B : List Cond} (h1 : ∀ w ∈ L.filter goodWord, w.before args s = true) (h2 : ∀ w ∈ L.filter (fun w => !goodWord w), w ∈ B) (h3 : ∀ w ∈ B, w.before args s = true) : ∀ w ∈ L, w.before args s = true := by
  intro w hw
  by_cases g : goodWord w = true
  · exact h1 w (List.mem_filter.mpr ⟨hw, g⟩)
  · refine h3 w (h2 w (List.mem_filter.mpr ⟨hw, ?_⟩))
    show (!goodWord w) = true
    cases hgw : goodWord w
    · rfl
    · exact absurd hgw g
theorem vx_c {args : Array Value} {s : State} {w : Cond} {B : List Cond} (h : w.before args s = true) (t : ∀ w ∈ B, w.before args s = true) : ∀ w' ∈ w :: B, w'.before args s = true := fun w' h' => (List.mem_cons.mp h').elim (fun e => by rw [e]; exact h) (t w')
theorem vx_n {args : Array Value} {s : State} : ∀ w ∈ ([] : List Cond), w.before args s = true := fun _ h => nomatch h
theorem vx_own {args : Array Value} {s : State} {L : List Cond} (h1 : ∀ w ∈ L.filter vx_no, w.before args s = true)
    (hU : (Cond.isRef (.static Bundle.tN "UNASSIGNED_STACK" Bundle.steD)).before args s = true) (hN : (Cond.isRef (.static Bundle.tN "SUPPRESSED_SENTINEL" Bundle.listD)).before args s = true)
    (lU : (Cond.laysStatic Bundle.tN "UNASSIGNED_STACK" Bundle.steD).before args s = true) (lN : (Cond.laysStatic Bundle.tN "SUPPRESSED_SENTINEL" Bundle.listD).before args s = true) : ∀ w ∈ L, w.before args s = true := by
  intro w hw
  by_cases e1 : w = .isRef (.static Bundle.tN "UNASSIGNED_STACK" Bundle.steD)
  · rw [e1]; exact hU
  · by_cases e2 : w = .isRef (.static Bundle.tN "SUPPRESSED_SENTINEL" Bundle.listD)
    · rw [e2]; exact hN
    · by_cases e3 : w = .laysStatic Bundle.tN "UNASSIGNED_STACK" Bundle.steD
      · rw [e3]; exact lU
      · by_cases e4 : w = .laysStatic Bundle.tN "SUPPRESSED_SENTINEL" Bundle.listD
        · rw [e4]; exact lN
        · exact h1 w (List.mem_filter.mpr ⟨hw, by unfold vx_no; rw [decide_eq_true e1, decide_eq_true e2, decide_eq_true e3, decide_eq_true e4]; rfl⟩)
/-- where a static field lies, its class's statics cell in H -/
def vx_L (C n d : String) (A : Nat → Prop) (U : State) (H : Heap) : Prop := ∃ (c : ClassId) (k : Class) (i : Nat) (f : Field) (a : Nat) (cell : Cell), U.vm.findClass C = some c ∧ U.fieldFound? C n d = some (c, k, i, f) ∧ f.isStatic = true ∧ k.statics = some a ∧ H[a]? = some cell ∧ cell.vm.isStatics = true ∧ cell.cls = c ∧ f.slot < cell.slots.size ∧ k.staticTypes[f.slot]? = some f.type ∧ ¬ A a
theorem vx_L.moved {C n d : String} {A : Nat → Prop} {u U : State} {H : Heap} (hvm : u.vm.Alike U.vm) (h : vx_L C n d A u H) : vx_L C n d A U H := by
  obtain ⟨c, k, i, f, a, cell, h1, h2, h3, h4, h5, h6, h7, h8, h9, h10⟩ := h
  obtain ⟨k', hi', he⟩ := State.fieldFound?_setVm hvm h2
  exact ⟨c, k', i, f, a, cell, by rw [hvm.findClass]; exact h1, hi', h3, by rw [he]; exact h4, h5, h6, h7, h8, by rw [he]; exact h9, h10⟩
theorem vx_L.kept {C n d : String} {A : Nat → Prop} {U : State} {H H1 : Heap} (h : vx_L C n d A U H) (hq : ∀ a : Nat, a < H.size → ¬ A a → H1[a]? = H[a]?) : vx_L C n d A U H1 := by
  obtain ⟨c, k, i, f, a, cell, h1, h2, h3, h4, h5, h6, h7, h8, h9, h10⟩ := h
  exact ⟨c, k, i, f, a, cell, h1, h2, h3, h4, by rw [hq a (Array.getElem?_eq_some_iff.mp h5).1 h10]; exact h5, h6, h7, h8, h9, h10⟩
theorem vx_L.narrow {C n d : String} {A B : Nat → Prop} {U : State} {H : Heap} (h : vx_L C n d A U H) (hAB : ∀ q, B q → A q) : vx_L C n d B U H := by
  obtain ⟨c, k, i, f, a, cell, h1, h2, h3, h4, h5, h6, h7, h8, h9, h10⟩ := h
  exact ⟨c, k, i, f, a, cell, h1, h2, h3, h4, h5, h6, h7, h8, h9, fun z => h10 (hAB _ z)⟩
theorem vx_L.word {C n d : String} {A : Nat → Prop} {s : State} {args : Array Value} (h : vx_L C n d A s s.heap) : (Cond.laysStatic C n d).before args s = true := by
  obtain ⟨c, k, i, f, a, cell, h1, h2, h3, h4, h5, h6, h7, h8, h9, -⟩ := h
  show (Cond.laysStatic C n d).holds args s none s [] = true
  exact Cond.laysStatic_of h1 h2 h3 h4 h5 h6 h7 h8 h9
/-- .. and what it holds: null or some reference -/
def vx_Zq (C n d : String) (A : Nat → Prop) (U : State) (H : Heap) : Prop := va_Zq C n d A U H ∧ vx_L C n d A U H
theorem vx_Zq.moved {C n d : String} {A : Nat → Prop} {u U : State} {H : Heap} (hvm : u.vm.Alike U.vm) (h : vx_Zq C n d A u H) : vx_Zq C n d A U H := ⟨va_Zq.moved hvm h.1, vx_L.moved hvm h.2⟩
theorem vx_Zq.kept {C n d : String} {A : Nat → Prop} {U : State} {H H1 : Heap} (h : vx_Zq C n d A U H) (hq : ∀ a : Nat, a < H.size → ¬ A a → H1[a]? = H[a]?) : vx_Zq C n d A U H1 := ⟨va_Zq.kept h.1 hq, vx_L.kept h.2 hq⟩
theorem vx_Zq.narrow {C n d : String} {A B : Nat → Prop} {U : State} {H : Heap} (h : vx_Zq C n d A U H) (hAB : ∀ q, B q → A q) : vx_Zq C n d B U H := ⟨va_Zq.narrow h.1 hAB, vx_L.narrow h.2 hAB⟩
theorem vx_Zqof {args : Array Value} {s : State} {C n d : String} {A : Nat → Prop} (hl : (Cond.laysStatic C n d).before args s = true) (hini : (Cond.initialized C).before args s = true) (h : (Cond.isRef (.static C n d)).before args s = true) (hA : ∀ a : Nat, a < s.heap.size → ¬ A a) : vx_Zq C n d A s s.heap := by
  refine ⟨va_Zqof hl hini h hA, ?_⟩
  obtain ⟨c, k, i, f, a, cell, h1, h2, h3, h4, h5, h6, h7, h8, h9⟩ := Cond.laysStatic_spec hl
  exact ⟨c, k, i, f, a, cell, h1, h2, h3, h4, h5, h6, h7, h8, h9, hA a (Array.getElem?_eq_some_iff.mp h5).1⟩
theorem vx_isRef {C n d : String} {v : Value} {A : Nat → Prop} {s : State} {args : Array Value} (h : va_Z C n d v A s s.heap) (hv : v.isRef = true) : (Cond.isRef (.static C n d)).before args s = true := by
  obtain ⟨cf, kf, fi, f, a, cell, h1, h2, h3, h4, h5, h6, h7, -⟩ := h
  have he : (Term.static C n d).eval args s none [] s = some v := by
    simp [Term.eval, State.fieldNamed?, h1, h2, h4, h5, h6, h7]
  simp only [Cond.before, Cond.holds, Cond.value, he]
  cases v <;> simp_all [Value.isRef]
theorem vx_isRefq {C n d : String} {A : Nat → Prop} {s : State} {args : Array Value} (h : va_Zq C n d A s s.heap) : (Cond.isRef (.static C n d)).before args s = true := by
  rcases h with h | ⟨t, h⟩
  · exact vx_isRef h rfl
  · exact vx_isRef h rfl
/-- the same frame, seen from here: as if the method were called anew in this heap -/
theorem vx_rebase {T : State} (X : Stand p l e R s m args below meth c T locs cells slots) {R' : Room} (hf : R'.frames ≤ R.frames) (hl : R'.locals ≤ R.locals) (hc : cells + R'.cells ≤ R.cells) (hs : slots + R'.slots ≤ R.slots) :
    Stand p l e R' ((T.setVm s.vm).setFrames (.invoking m args :: below)) m args below meth c T [] 0 0 := by
  have htop : (T.setVm s.vm).topJava?.isSome := X.here.top
  have hF : ((T.setVm s.vm).setFrames (.invoking m args :: below)).frames = .invoking m args :: below := State.frames_setFrames _ (State.cur_lt_of_top htop)
  obtain ⟨g₀, hg0⟩ := Option.isSome_iff_exists.mp htop
  obtain ⟨r, hr⟩ := State.topJava?_eq_some.mp hg0
  have hl9 : e.platform.stackLimits (T.setVm s.vm).me = e.platform.stackLimits s.me := X.limits
  have hb9 : (T.setVm s.vm).me.stackBytes = s.me.stackBytes := X.bytes
  refine ⟨X.admits, X.cas, X.clock, hF, ?_, X.hears, X.method, X.code, X.here, X.tail, X.warmed, ?_, ?_, ?_⟩
  · have h := X.room
    have hU : ((T.setVm s.vm).setFrames (.invoking m args :: below)).localsInUse = s.localsInUse := by
      rw [State.localsInUse_invoking hF (meth := meth) (c := c) X.method X.code, State.localsInUse_invoking X.frames X.method X.code]
    simp only [State.hasRoom, Bool.and_eq_true, decide_eq_true_eq] at h ⊢
    obtain ⟨⟨⟨⟨h1, h2, h3, h4, h5, h6⟩, h7⟩, h8⟩, h9⟩ := h
    rw [X.frames, List.length_cons] at h2 h3
    have q1 := X.heapSize
    have q2 := X.used
    simp only [hF, hU, List.length_cons, State.stackLimits_setFrames, State.stackBytes_setFrames, hl9, hb9]
    refine ⟨⟨⟨⟨by omega, by omega, by omega, by omega, by omega, h6⟩, ?_⟩, ?_⟩, X.book⟩
    · show T.heap.size + R'.cells ≤ e.platform.maxCells
      omega
    · show T.slotsUsed + R'.slots ≤ e.platform.maxSlots
      omega
  · rw [State.stackLimits_setFrames]; rfl
  · rw [State.stackBytes_setFrames]; rfl
  · refine ⟨?_, Nat.le_refl _, Nat.le_refl _, ?_, ?_, fun a c9 h9 => ⟨c9, h9, rfl, rfl, fun _ _ => rfl⟩⟩
    · obtain ⟨t, ht, -⟩ := State.frames_cons hr
      show T.setVm s.vm = { ((T.setVm s.vm).setFrames (.invoking m args :: below)).setFrames (T.setVm s.vm).frames with heap := T.heap, slotsUsed := T.slotsUsed }
      rw [State.setFrames_setFrames, State.setFrames_self ht]
      rfl
    · show T.slotsUsed = T.slotsUsed + ((T.heap.toList.drop T.heap.size).map (·.slots.size)).sum
      rw [List.drop_eq_nil_of_le (Nat.le_of_eq Array.length_toList)]
      rfl
    · show ((T.heap.toList.drop T.heap.size).map (·.slots.size)).sum ≤ 0
      rw [List.drop_eq_nil_of_le (Nat.le_of_eq Array.length_toList)]
      exact Nat.le_refl _
/-- 'throw new E()': new; dup; invokespecial; athrow -/
theorem vx_throw0 {cc : ByteArray} {pc : Nat} (hexec : p.tables.exec = Jvm.exec) (hb : c.code = cc) (hl : l.stackTraces = false) {own cls : String} {names : List String} {ik ic mc ms : Nat} {A : Nat → Prop}
    (hown : s.vm.findClass own = some m.cls) (hcls : Bundle.fit cls = true) (hnames : ∀ n ∈ names, Bundle.fit n = true)
    (hk : (Cond.classLink own ik cls).before args s = true) (hini : (Cond.initialized cls).before args s = true) (hat : ∀ w ∈ vx_at0 own ic cls names, w.before args s = true)
    (hgood : ∀ w ∈ Cond.classLink own ik cls :: Cond.initialized cls :: vx_at0 own ic cls names, vx_ot w = true)
    (hU : vx_Zq Bundle.tN "UNASSIGNED_STACK" Bundle.steD A s s.heap) (hN : vx_Zq Bundle.tN "SUPPRESSED_SENTINEL" Bundle.listD A s s.heap) (hS : va_S A s.heap H locs) (hsize : ls.size = c.maxLocals)
    (d0 : decode cc pc = .ok (.new ik, 3)) (d3 : decode cc (pc + 3) = .ok (.dup, 1)) (d4 : decode cc (pc + 4) = .ok (.invokespecial ic, 3)) (d7 : decode cc (pc + 7) = .ok (.athrow, 1))
    (hout : ∀ x ∈ c.exceptionTable.toList, covers x (pc + 7) = false)
    (hRframes : names.length + 3 < R.frames) (hRlocals : (rest.map fun v => v.category).sum + (13 * (names.length + 1) + 42) ≤ R.locals) (hRcells : cells + 1 ≤ R.cells) (hRslots : slots + 6 ≤ R.slots) (hlocks : meth.locks = false)
    (hx : ∀ t : State, s.vm.Alike t.vm → H.size ≤ t.heap.size → (∀ q : Nat, q < H.size → t.heap[q]? = H[q]?) → XC cls s t)
    (hf : ∀ z ∈ locs, free z.base) (hc : cells + 1 ≤ mc) (hs : slots + 6 ≤ ms) :
    W p l e R s m args below meth c H locs cells slots (vx_MQ below Qc XC args s mc ms free) (F0 m pc ls rest) := by
  intro T hT X
  have htr : e.platform.stackTraces = false := (show e.platform.stackTraces = l.stackTraces by rw [X.admits.platform]).trans hl
  have Y := vx_rebase X (R' := { frames := R.frames, locals := R.locals, cells := 1, slots := 6 }) (Nat.le_refl _) (Nat.le_refl _) hRcells hRslots
  obtain ⟨s', hA⟩ : ∃ z, z = (T.setVm s.vm).setFrames (.invoking m args :: below) := ⟨_, rfl⟩
  rw [← hA] at Y
  have hvm : s'.vm = s.vm := by rw [hA]; rfl
  have hhp : s'.heap = H := by rw [hA]; exact hT
  have hW0 : s.WarmedH s'.vm := by rw [hvm]; exact State.WarmedH.refl s
  have hat' : ∀ w ∈ vx_at0 own ic cls names, w.before args s' = true := fun w hw => vx_ot_at hW0 hvm.symm (hgood w (List.mem_cons_of_mem _ (List.mem_cons_of_mem _ hw))) (hat w hw)
  have hk' : (Cond.classLink own ik cls).before args s' = true := vx_ot_at hW0 hvm.symm (hgood _ List.mem_cons_self) hk
  have hini' : (Cond.initialized cls).before args s' = true := vx_ot_at hW0 hvm.symm (hgood _ (List.mem_cons_of_mem _ List.mem_cons_self)) hini
  have hU' : vx_Zq Bundle.tN "UNASSIGNED_STACK" Bundle.steD A s' s'.heap := by rw [hhp]; exact vx_Zq.moved hW0.alike (hU.kept hS.2.1)
  have hN' : vx_Zq Bundle.tN "SUPPRESSED_SENTINEL" Bundle.listD A s' s'.heap := by rw [hhp]; exact vx_Zq.moved hW0.alike (hN.kept hS.2.1)
  have h : ∀ w ∈ Bundle.ownAtoms0 own ic cls names, w.before args s' = true := vx_own hat' (vx_isRefq hU'.1) (vx_isRefq hN'.1) hU'.2.word hN'.2.word
  have hown' : s'.vm.findClass own = some m.cls := by rw [hvm]; exact hown
  have hins : (Cond.instantiable cls 6).before args s' = true := h _ (by simp [Bundle.ownAtoms0])
  obtain ⟨vm₁, cX, kX, hfX, hkX, -, -, X₁, st1⟩ := Y.newCold hexec (own := own) (C := cls) (index := ik) (n := 6) hown' hk' hins hini'
    (g := F0 m pc ls rest) rfl (by rw [hb]; exact d0) (Nat.le_refl _) (Nat.le_refl _)
  generalize hT1 : (T.setVm vm₁).pushCell { cls := cX, slots := kX.instanceTypes.map defaultValue, vm := .none } = T1 at X₁ st1
  have hcat : (Value.ref T.heap.size).category = 1 := rfl
  have hcellA : T1.heap[T.heap.size]? = some (freshCell cX kX) := by rw [← hT1]; exact State.heap_pushCell_size _ _
  have d3' : decode c.code (pc + 3) = .ok (.dup, 1) := by rw [hb]; exact d3
  obtain ⟨U, hsteps, hrun, hend, hW, hsame, ce, hce, hO⟩ := X₁.ctorThrow0 hexec htr (own := own) (cls := cls) (names := names) (ic := ic) hown' hcls hnames h (fun x hx => nomatch hx) hfX hkX hcellA (by rw [hhp, hT]; exact Nat.le_refl _)
    (g := { method := m, pc := pc + 4, locals := ls, stack := .ref T.heap.size :: .ref T.heap.size :: rest, locked := none }) rfl hsize rfl rfl (rest := rest) rfl
    (by rw [hb]; exact d4) (by rw [hb]; exact d7) hout hRframes (by simp only [List.map_cons, List.sum_cons, hcat]; omega) hlocks
  obtain ⟨f1, f2⟩ := vx_frame hsame
  rw [hhp] at f1 f2
  have hWs : s.WarmedH U.vm := State.WarmedH.trans hW0 hW
  have hcl : s.vm.findClass cls = some ce.cls := by
    have h9 := hO.cls
    rw [hvm] at h9
    exact h9
  have hall : s.sameButNew ({ U with vm := s.vm } : State) locs mc ms := by
    subst hA
    obtain ⟨e1, e2⟩ := hsame
    rw [State.setFrames_setFrames] at e1
    have h2 : (T.setVm s.vm).sameButNew ({ U with vm := s.vm } : State) [] (0 + 1) (0 + 6) := ⟨e1, e2⟩
    have h3 := X.same.trans h2
    rw [List.append_nil] at h3
    exact h3.mono hc hs
  refine ⟨U, ?_, .threw T.heap.size, hrun, hend, Or.inr ⟨T.heap.size, rfl, cls, ce, locs, hx U hWs.alike f1 (fun q hq => f2 q hq (fun z hz => nomatch hz)), hce, hO.vm, hcl, hWs, hall, hf⟩⟩
  refine st1 _ ?_
  show Steps p.tables e below (T1.setTop { method := m, pc := pc + 3, locals := ls, stack := .ref T.heap.size :: rest, locked := none }) _
  jvm_step X₁.here [X₁.here.top, hexec, d3', Value.category]
  exact hsteps
/-- 'throw new E("text")': new; dup; ldc; invokespecial; athrow -/
theorem vx_throwS {cc : ByteArray} {pc : Nat} (hexec : p.tables.exec = Jvm.exec) (hb : c.code = cc) (hl : l.stackTraces = false) {own cls text : String} {names : List String} {ik is ic mc ms sa : Nat} {A : Nat → Prop}
    (hown : s.vm.findClass own = some m.cls) (hcls : Bundle.fit cls = true) (hnames : ∀ n ∈ names, Bundle.fit n = true)
    (hk : (Cond.classLink own ik cls).before args s = true) (hini : (Cond.initialized cls).before args s = true) (hstr : vk_R own is text sa s) (hat : ∀ w ∈ vx_atS own ic cls names, w.before args s = true)
    (hgood : ∀ w ∈ Cond.classLink own ik cls :: Cond.initialized cls :: vx_atS own ic cls names, vx_ot w = true)
    (hU : vx_Zq Bundle.tN "UNASSIGNED_STACK" Bundle.steD A s s.heap) (hN : vx_Zq Bundle.tN "SUPPRESSED_SENTINEL" Bundle.listD A s s.heap) (hS : va_S A s.heap H locs) (hsize : ls.size = c.maxLocals)
    (d0 : decode cc pc = .ok (.new ik, 3)) (d3 : decode cc (pc + 3) = .ok (.dup, 1)) (d4 : decode cc (pc + 4) = .ok (.ldc is, 2)) (d6 : decode cc (pc + 6) = .ok (.invokespecial ic, 3)) (d9 : decode cc (pc + 9) = .ok (.athrow, 1))
    (hout : ∀ x ∈ c.exceptionTable.toList, covers x (pc + 9) = false)
    (hRframes : names.length + 3 < R.frames) (hRlocals : (rest.map fun v => v.category).sum + (13 * (names.length + 1) + 43) ≤ R.locals) (hRcells : cells + 1 ≤ R.cells) (hRslots : slots + 6 ≤ R.slots) (hlocks : meth.locks = false)
    (hx : ∀ t : State, s.vm.Alike t.vm → H.size ≤ t.heap.size → (∀ q : Nat, q < H.size → t.heap[q]? = H[q]?) → XC cls s t)
    (hf : ∀ z ∈ locs, free z.base) (hc : cells + 1 ≤ mc) (hs : slots + 6 ≤ ms) :
    W p l e R s m args below meth c H locs cells slots (vx_MQ below Qc XC args s mc ms free) (F0 m pc ls rest) := by
  intro T hT X
  have htr : e.platform.stackTraces = false := (show e.platform.stackTraces = l.stackTraces by rw [X.admits.platform]).trans hl
  have Y := vx_rebase X (R' := { frames := R.frames, locals := R.locals, cells := 1, slots := 6 }) (Nat.le_refl _) (Nat.le_refl _) hRcells hRslots
  obtain ⟨s', hA⟩ : ∃ z, z = (T.setVm s.vm).setFrames (.invoking m args :: below) := ⟨_, rfl⟩
  rw [← hA] at Y
  have hvm : s'.vm = s.vm := by rw [hA]; rfl
  have hhp : s'.heap = H := by rw [hA]; exact hT
  have hW0 : s.WarmedH s'.vm := by rw [hvm]; exact State.WarmedH.refl s
  have hat' : ∀ w ∈ vx_atS own ic cls names, w.before args s' = true := fun w hw => vx_ot_at hW0 hvm.symm (hgood w (List.mem_cons_of_mem _ (List.mem_cons_of_mem _ hw))) (hat w hw)
  have hk' : (Cond.classLink own ik cls).before args s' = true := vx_ot_at hW0 hvm.symm (hgood _ List.mem_cons_self) hk
  have hini' : (Cond.initialized cls).before args s' = true := vx_ot_at hW0 hvm.symm (hgood _ (List.mem_cons_of_mem _ List.mem_cons_self)) hini
  have hU' : vx_Zq Bundle.tN "UNASSIGNED_STACK" Bundle.steD A s' s'.heap := by rw [hhp]; exact vx_Zq.moved hW0.alike (hU.kept hS.2.1)
  have hN' : vx_Zq Bundle.tN "SUPPRESSED_SENTINEL" Bundle.listD A s' s'.heap := by rw [hhp]; exact vx_Zq.moved hW0.alike (hN.kept hS.2.1)
  have h : ∀ w ∈ Bundle.ownAtoms own ic cls names, w.before args s' = true := vx_own hat' (vx_isRefq hU'.1) (vx_isRefq hN'.1) hU'.2.word hN'.2.word
  have hown' : s'.vm.findClass own = some m.cls := by rw [hvm]; exact hown
  have hins : (Cond.instantiable cls 6).before args s' = true := h _ (by simp [Bundle.ownAtoms])
  obtain ⟨vm₁, cX, kX, hfX, hkX, -, -, X₁, st1⟩ := Y.newCold hexec (own := own) (C := cls) (index := ik) (n := 6) hown' hk' hins hini'
    (g := F0 m pc ls rest) rfl (by rw [hb]; exact d0) (Nat.le_refl _) (Nat.le_refl _)
  generalize hT1 : (T.setVm vm₁).pushCell { cls := cX, slots := kX.instanceTypes.map defaultValue, vm := .none } = T1 at X₁ st1
  have hcat : (Value.ref T.heap.size).category = 1 := rfl
  have hcellA : T1.heap[T.heap.size]? = some (freshCell cX kX) := by rw [← hT1]; exact State.heap_pushCell_size _ _
  have d3' : decode c.code (pc + 3) = .ok (.dup, 1) := by rw [hb]; exact d3
  have d4' : decode c.code (pc + 4) = .ok (.ldc is, 2) := by rw [hb]; exact d4
  have hstr' : vk_R own is text sa s' := vk_R.warm hW0 hstr
  obtain ⟨U, hsteps, hrun, hend, hW, hsame, ce, hce, hO⟩ := X₁.ctorThrowS hexec htr (own := own) (cls := cls) (names := names) (ic := ic) hown' hcls hnames h (fun x hx => nomatch hx) hfX hkX hcellA (by rw [hhp, hT]; exact Nat.le_refl _) (msg := .ref sa) rfl
    (g := { method := m, pc := pc + 6, locals := ls, stack := .ref sa :: .ref T.heap.size :: .ref T.heap.size :: rest, locked := none }) rfl hsize rfl rfl (rest := rest) rfl
    (by rw [hb]; exact d6) (by rw [hb]; exact d9) hout hRframes (by simp only [List.map_cons, List.sum_cons, hcat]; omega) hlocks
  obtain ⟨f1, f2⟩ := vx_frame hsame
  rw [hhp] at f1 f2
  have hWs : s.WarmedH U.vm := State.WarmedH.trans hW0 hW
  have hcl : s.vm.findClass cls = some ce.cls := by
    have h9 := hO.cls
    rw [hvm] at h9
    exact h9
  have hall : s.sameButNew ({ U with vm := s.vm } : State) locs mc ms := by
    subst hA
    obtain ⟨e1, e2⟩ := hsame
    rw [State.setFrames_setFrames] at e1
    have h2 : (T.setVm s.vm).sameButNew ({ U with vm := s.vm } : State) [] (0 + 1) (0 + 6) := ⟨e1, e2⟩
    have h3 := X.same.trans h2
    rw [List.append_nil] at h3
    exact h3.mono hc hs
  refine ⟨U, ?_, .threw T.heap.size, hrun, hend, Or.inr ⟨T.heap.size, rfl, cls, ce, locs, hx U hWs.alike f1 (fun q hq => f2 q hq (fun z hz => nomatch hz)), hce, hO.vm, hcl, hWs, hall, hf⟩⟩
  refine st1 _ ?_
  show Steps p.tables e below (T1.setTop { method := m, pc := pc + 3, locals := ls, stack := .ref T.heap.size :: rest, locked := none }) _
  jvm_step X₁.here [X₁.here.top, hexec, d3', Value.category]
  exact X₁.ldcString hexec (own := own) (text := text) (index := is) (a := sa) hown' hstr'.1 hstr'.2
    (g := { method := m, pc := pc + 4, locals := ls, stack := .ref T.heap.size :: .ref T.heap.size :: rest, locked := none }) rfl d4' _ hsteps
/-- 'throw new E("text")', the text by a wide index -/
theorem vx_throwSW {cc : ByteArray} {pc : Nat} (hexec : p.tables.exec = Jvm.exec) (hb : c.code = cc) (hl : l.stackTraces = false) {own cls text : String} {names : List String} {ik is ic mc ms sa : Nat} {A : Nat → Prop}
    (hown : s.vm.findClass own = some m.cls) (hcls : Bundle.fit cls = true) (hnames : ∀ n ∈ names, Bundle.fit n = true)
    (hk : (Cond.classLink own ik cls).before args s = true) (hini : (Cond.initialized cls).before args s = true) (hstr : vk_R own is text sa s) (hat : ∀ w ∈ vx_atS own ic cls names, w.before args s = true)
    (hgood : ∀ w ∈ Cond.classLink own ik cls :: Cond.initialized cls :: vx_atS own ic cls names, vx_ot w = true)
    (hU : vx_Zq Bundle.tN "UNASSIGNED_STACK" Bundle.steD A s s.heap) (hN : vx_Zq Bundle.tN "SUPPRESSED_SENTINEL" Bundle.listD A s s.heap) (hS : va_S A s.heap H locs) (hsize : ls.size = c.maxLocals)
    (d0 : decode cc pc = .ok (.new ik, 3)) (d3 : decode cc (pc + 3) = .ok (.dup, 1)) (d4 : decode cc (pc + 4) = .ok (.ldc_w is, 3)) (d7 : decode cc (pc + 7) = .ok (.invokespecial ic, 3)) (d10 : decode cc (pc + 10) = .ok (.athrow, 1))
    (hout : ∀ x ∈ c.exceptionTable.toList, covers x (pc + 10) = false)
    (hRframes : names.length + 3 < R.frames) (hRlocals : (rest.map fun v => v.category).sum + (13 * (names.length + 1) + 43) ≤ R.locals) (hRcells : cells + 1 ≤ R.cells) (hRslots : slots + 6 ≤ R.slots) (hlocks : meth.locks = false)
    (hx : ∀ t : State, s.vm.Alike t.vm → H.size ≤ t.heap.size → (∀ q : Nat, q < H.size → t.heap[q]? = H[q]?) → XC cls s t)
    (hf : ∀ z ∈ locs, free z.base) (hc : cells + 1 ≤ mc) (hs : slots + 6 ≤ ms) :
    W p l e R s m args below meth c H locs cells slots (vx_MQ below Qc XC args s mc ms free) (F0 m pc ls rest) := by
  intro T hT X
  have htr : e.platform.stackTraces = false := (show e.platform.stackTraces = l.stackTraces by rw [X.admits.platform]).trans hl
  have Y := vx_rebase X (R' := { frames := R.frames, locals := R.locals, cells := 1, slots := 6 }) (Nat.le_refl _) (Nat.le_refl _) hRcells hRslots
  obtain ⟨s', hA⟩ : ∃ z, z = (T.setVm s.vm).setFrames (.invoking m args :: below) := ⟨_, rfl⟩
  rw [← hA] at Y
  have hvm : s'.vm = s.vm := by rw [hA]; rfl
  have hhp : s'.heap = H := by rw [hA]; exact hT
  have hW0 : s.WarmedH s'.vm := by rw [hvm]; exact State.WarmedH.refl s
  have hat' : ∀ w ∈ vx_atS own ic cls names, w.before args s' = true := fun w hw => vx_ot_at hW0 hvm.symm (hgood w (List.mem_cons_of_mem _ (List.mem_cons_of_mem _ hw))) (hat w hw)
  have hk' : (Cond.classLink own ik cls).before args s' = true := vx_ot_at hW0 hvm.symm (hgood _ List.mem_cons_self) hk
  have hini' : (Cond.initialized cls).before args s' = true := vx_ot_at hW0 hvm.symm (hgood _ (List.mem_cons_of_mem _ List.mem_cons_self)) hini
  have hU' : vx_Zq Bundle.tN "UNASSIGNED_STACK" Bundle.steD A s' s'.heap := by rw [hhp]; exact vx_Zq.moved hW0.alike (hU.kept hS.2.1)
  have hN' : vx_Zq Bundle.tN "SUPPRESSED_SENTINEL" Bundle.listD A s' s'.heap := by rw [hhp]; exact vx_Zq.moved hW0.alike (hN.kept hS.2.1)
  have h : ∀ w ∈ Bundle.ownAtoms own ic cls names, w.before args s' = true := vx_own hat' (vx_isRefq hU'.1) (vx_isRefq hN'.1) hU'.2.word hN'.2.word
  have hown' : s'.vm.findClass own = some m.cls := by rw [hvm]; exact hown
  have hins : (Cond.instantiable cls 6).before args s' = true := h _ (by simp [Bundle.ownAtoms])
  obtain ⟨vm₁, cX, kX, hfX, hkX, -, -, X₁, st1⟩ := Y.newCold hexec (own := own) (C := cls) (index := ik) (n := 6) hown' hk' hins hini'
    (g := F0 m pc ls rest) rfl (by rw [hb]; exact d0) (Nat.le_refl _) (Nat.le_refl _)
  generalize hT1 : (T.setVm vm₁).pushCell { cls := cX, slots := kX.instanceTypes.map defaultValue, vm := .none } = T1 at X₁ st1
  have hcat : (Value.ref T.heap.size).category = 1 := rfl
  have hcellA : T1.heap[T.heap.size]? = some (freshCell cX kX) := by rw [← hT1]; exact State.heap_pushCell_size _ _
  have d3' : decode c.code (pc + 3) = .ok (.dup, 1) := by rw [hb]; exact d3
  have d4' : decode c.code (pc + 4) = .ok (.ldc_w is, 3) := by rw [hb]; exact d4
  have hstr' : vk_R own is text sa s' := vk_R.warm hW0 hstr
  obtain ⟨U, hsteps, hrun, hend, hW, hsame, ce, hce, hO⟩ := X₁.ctorThrowS hexec htr (own := own) (cls := cls) (names := names) (ic := ic) hown' hcls hnames h (fun x hx => nomatch hx) hfX hkX hcellA (by rw [hhp, hT]; exact Nat.le_refl _) (msg := .ref sa) rfl
    (g := { method := m, pc := pc + 7, locals := ls, stack := .ref sa :: .ref T.heap.size :: .ref T.heap.size :: rest, locked := none }) rfl hsize rfl rfl (rest := rest) rfl
    (by rw [hb]; exact d7) (by rw [hb]; exact d10) hout hRframes (by simp only [List.map_cons, List.sum_cons, hcat]; omega) hlocks
  obtain ⟨f1, f2⟩ := vx_frame hsame
  rw [hhp] at f1 f2
  have hWs : s.WarmedH U.vm := State.WarmedH.trans hW0 hW
  have hcl : s.vm.findClass cls = some ce.cls := by
    have h9 := hO.cls
    rw [hvm] at h9
    exact h9
  have hall : s.sameButNew ({ U with vm := s.vm } : State) locs mc ms := by
    subst hA
    obtain ⟨e1, e2⟩ := hsame
    rw [State.setFrames_setFrames] at e1
    have h2 : (T.setVm s.vm).sameButNew ({ U with vm := s.vm } : State) [] (0 + 1) (0 + 6) := ⟨e1, e2⟩
    have h3 := X.same.trans h2
    rw [List.append_nil] at h3
    exact h3.mono hc hs
  refine ⟨U, ?_, .threw T.heap.size, hrun, hend, Or.inr ⟨T.heap.size, rfl, cls, ce, locs, hx U hWs.alike f1 (fun q hq => f2 q hq (fun z hz => nomatch hz)), hce, hO.vm, hcl, hWs, hall, hf⟩⟩
  refine st1 _ ?_
  show Steps p.tables e below (T1.setTop { method := m, pc := pc + 3, locals := ls, stack := .ref T.heap.size :: rest, locked := none }) _
  jvm_step X₁.here [X₁.here.top, hexec, d3', Value.category]
  exact X₁.ldcStringW hexec (own := own) (text := text) (index := is) (a := sa) hown' hstr'.1 hstr'.2
    (g := { method := m, pc := pc + 4, locals := ls, stack := .ref T.heap.size :: .ref T.heap.size :: rest, locked := none }) rfl d4' _ hsteps
end Ends
section Bodies
variable {l : Launch}
theorem vx_ofW {y : MethodName} {ws ws' : List Cond} {rm : Room} {Pc : Array Value → State → Prop} {Qc : Array Value → State → Outcome → State → Prop} {XC : String → State → State → Prop} {mc ms : Nat} {free : Addr → Prop} {cc : ByteArray} {maxL : Nat} {ret : Option FieldType}
    (hy : plainName y.cls = true) (hw : ws = Cond.code y cc maxL ret :: ws')
    (body : ∀ p e s m args below meth c s₁, BodyLoose p l y (headSpec ws rm) cc maxL ret e s m args below meth c s₁ → c.maxLocals = maxL → (∀ x ∈ c.exceptionTable.toList, False) → Pc args s →
      W p l e (headSpec ws rm).room s m args below meth c s.heap [] 0 0 (vx_MQ below Qc XC args s mc ms free) (entryFrame m args maxL)) : vx_Met l y ws rm Pc Qc XC mc ms free := by
  refine MetFree.of_bodyS (code := cc) (maxLocals := maxL) (ret := ret) hy ?_ ?_
  · intro args s m h hn
    obtain ⟨meth, c, h1, h2, h3, h4, h5, h6, -, -⟩ := Cond.code_spec hn (atoms_spec (ws := ws) h _ (by rw [hw]; exact List.mem_cons_self))
    exact ⟨meth, c, h1, h2, h3, h4, h5, h6⟩
  · intro p e s m args below meth c s₁ B hml hP _
    have hh0 : s₁.heap = s.heap := by rw [B.state]; rfl
    have ht : ∀ x ∈ c.exceptionTable.toList, False := by
      obtain ⟨meth9, c9, h1, h2, -, -, -, -, h7, -⟩ := Cond.code_spec B.named (atoms_spec (ws := ws) B.pre _ (by rw [hw]; exact List.mem_cons_self))
      cases Option.some.inj (h1.symm.trans B.method)
      cases Option.some.inj (h2.symm.trans (Stand.of_body B).code)
      intro x hx
      rw [Array.isEmpty_iff.mp h7] at hx
      cases hx
    obtain ⟨t, a1, o, b1, b2, b3⟩ := body p e s m args below meth c s₁ B hml ht hP s₁ hh0 (Stand.of_body B)
    exact ⟨t, o, a1, b1, b2, b3⟩
/-- the table of a body with handlers -/
theorem vx_table {p : Program} {x y : MethodName} {S : Spec} {cc bytes : ByteArray} {maxL maxL' : Nat} {ret ret' : Option FieldType} {e : Env} {s s₁ : State} {m : MethodId} {args : Array Value} {below : List Frame} {meth : Method} {c : Code} {hh : List (Nat × Nat × Nat × Nat)}
    (B : BodyLoose p l y S cc maxL ret e s m args below meth c s₁) (h : (Cond.codeWith y bytes maxL' ret' hh).before args s = true) : c.exceptionTable.toList = tableOf hh := by
  obtain ⟨m9, meth9, c9, hn9, h1, h2, -, -, h6, -⟩ := Cond.codeWith_spec h
  cases Option.some.inj (hn9.symm.trans B.named)
  cases Option.some.inj (h1.symm.trans B.method)
  cases Option.some.inj (h2.symm.trans (Stand.of_body B).code)
  rw [← h6, table_eq]
end Bodies
end VXA
/-! ===== END ===== -/
/-! ===== BEGIN a static call of a method with an exception table ===== -/
section VXS
variable {p : Program} {l : Launch} {e : Env} {R : Room} {s : State} {m : MethodId} {args : Array Value} {below : List Frame} {meth : Method} {c : Code} {T : State} {H : Heap} {locs : List Loc} {cells slots : Nat}
abbrev vx_CSW (R : Room) (s : State) (args : Array Value) (own : String) (index : Nat) (y : MethodName) (bytes : ByteArray) (maxL : Nat) (ret : Option FieldType) (hh : List (Nat × Nat × Nat × Nat)) (ws : List Cond) (rm : Room) (mc ms n : Nat) : Prop :=
  (rm.cells = mc ∧ rm.slots = ms ∧ rm.frames + 1 ≤ R.frames ∧ 8 + (maxL + 11) + rm.locals ≤ R.locals ∧ (∀ w ∈ ws, ∀ (a' : Array Value) (U : State), s.WarmedH U.vm → w.before a' U = true) ∧ Cond.codeWith y bytes maxL ret hh ∈ ws) ∧
  (Cond.codeWith y bytes maxL ret hh).before args s = true ∧ (Cond.initialized y.cls).before args s = true ∧ (y.cls ≠ "java/lang/invoke/MethodHandle" ∧ y.cls ≠ "java/lang/invoke/VarHandle") ∧
  (∀ sig, parseMethodDescriptor y.desc = some sig → n = sig.parameters.length) ∧ (Cond.methodLink own index y).before args s = true ∧ (Cond.static y).before args s = true
theorem vx_cwSW {own : String} {index maxL mc ms : Nat} {y : MethodName} {bytes : ByteArray} {ret : Option FieldType} {hh : List (Nat × Nat × Nat × Nat)} {Ts ws ws' : List Cond} {rm : Room} (n : Nat) (ht : ∀ w ∈ Ts, w.before args s = true) (hT : GoodIn Ts (va_wsS own index y ws)) (hw : ws = Cond.codeWith y bytes maxL ret hh :: ws') (hrc : rm.cells = mc) (hrs : rm.slots = ms)
    (hd : y.cls ≠ "java/lang/invoke/MethodHandle" ∧ y.cls ≠ "java/lang/invoke/VarHandle" ∧ (parseMethodDescriptor y.desc).map (fun d => d.parameters.length) = some n) (hR : rm.frames + 1 ≤ R.frames ∧ 8 + (maxL + 11) + rm.locals ≤ R.locals) :
    vx_CSW R s args own index y bytes maxL ret hh ws rm mc ms n := by
  have ok : ∀ w ∈ va_wsS own index y ws, w.before args s = true := fun w h => ht w (hT w h).1
  have hG : GoodIn Ts ws := fun w h => hT w (by unfold va_wsS; exact List.mem_append_right _ h)
  have hc : Cond.codeWith y bytes maxL ret hh ∈ ws := by rw [hw]; exact List.mem_cons_self
  refine ⟨⟨hrc, hrs, hR.1, hR.2, pay_in ht hG, hc⟩, ht _ (hG _ hc).1, ok _ (by simp [va_wsS]), ⟨hd.1, hd.2.1⟩, fun sig h => ?_, ok _ (by simp [va_wsS]), ok _ (by simp [va_wsS])⟩
  have h2 := hd.2.2
  rw [h] at h2
  exact (Option.some.inj h2).symm
theorem vx_callSW (X : Stand p l e R s m args below meth c T locs cells slots) (hexec : p.tables.exec = Jvm.exec) {own : String} {index : Nat} {y : MethodName} {bytes : ByteArray} {maxL : Nat} {ret : Option FieldType} {hh : List (Nat × Nat × Nat × Nat)}
    (hown : s.vm.findClass own = some m.cls) (hlink : (Cond.methodLink own index y).before args s = true) (hstat : (Cond.static y).before args s = true) (hinit : (Cond.initialized y.cls).before args s = true)
    (hcode : (Cond.codeWith y bytes maxL ret hh).before args s = true) (hy : y.cls ≠ "java/lang/invoke/MethodHandle" ∧ y.cls ≠ "java/lang/invoke/VarHandle")
    {W9 : Nat} {Pre : Pt → Array Value → Prop} {Post : Pt → Array Value → Option Value → Pt → Prop} (hK : Back l R p e below s args y 3 W9 Pre Post)
    {g : JFrame} (hg : g.method = m) (hsize : g.locals.size = c.maxLocals) {argsL rest : List Value} (hlen : ∀ sig, parseMethodDescriptor y.desc = some sig → argsL.length = sig.parameters.length)
    (hstack : g.stack = argsL.reverse ++ rest) (hW : 2 * g.monitorRoom + (rest.map fun v => v.category).sum ≤ W9) (hdg : decode c.code g.pc = .ok (.invokestatic index, 3))
    (hpre : ∀ vm₁, s.WarmedH vm₁ → Pre ⟨T.setVm vm₁, locs, cells, slots⟩ argsL.toArray) :
    ∃ (v : Option Value) (vm₁ : Vm) (B : Pt), s.WarmedH vm₁ ∧ Stand p l e R s m args below meth c B.U B.locs B.cells B.slots ∧ Post ⟨T.setVm vm₁, locs, cells, slots⟩ argsL.toArray v B ∧
      ∀ target, Steps p.tables e below (B.U.setTop { g with pc := g.pc + 3, stack := v.toList ++ rest }) target → Steps p.tables e below (T.setTop g) target := by
  obtain ⟨mk, methM, cM, hnamed, hmethM, -, -, -, -, -, -, hsigM⟩ := Cond.codeWith_spec hcode
  have hstatic : methM.isStatic = true := Cond.static_spec hnamed hmethM hstat
  obtain ⟨kP, hkP, -⟩ := className_of_methodNamed hnamed
  have hinitP : kP.init = .initialized := Cond.initialized_spec (findClass_of_methodNamed hnamed) hkP hinit
  obtain ⟨vm₁, X₁, hstep₁⟩ := X.invokestatic hexec hown hlink hnamed hmethM hstatic hkP hinitP hy (g := g) hg (argsL := argsL) (rest := rest) (hlen _ hsigM) hstack hdg
  obtain ⟨v, B, X', hpost, hsteps⟩ := hK m meth c ⟨T.setVm vm₁, locs, cells, slots⟩ { g with stack := rest } (.invokestatic index) mk argsL.toArray X₁ hg hsize hdg hW (X₁.named hnamed) (hpre vm₁ X₁.warmed)
  exact ⟨v, vm₁, B, X₁.warmed, X', hpost, fun target h => hstep₁ _ fun acts => by rw [doInvoke_state]; exact hsteps.trans h⟩
theorem vx_runSW {y : MethodName} {bytes cc : ByteArray} {maxL nL mc ms n index : Nat} {ret : Option FieldType} {hh : List (Nat × Nat × Nat × Nat)} {ws : List Cond} {rm : Room} {Pc : Array Value → State → Prop} {Qc : Array Value → State → Outcome → State → Prop} {free : Addr → Prop} {Ts : List Cond} {own : String} {As rest : List Value} {g : JFrame}
    (S : CallFix p m c cc nL s args Ts own) (hM : Met l y ws rm Pc Qc mc ms free) (cw : vx_CSW R s args own index y bytes maxL ret hh ws rm mc ms n) (hp : PreS s H Pc As)
    (hg : g.method = m) (hn : As.length = n) (hsize : g.locals.size = nL) (hstack : g.stack = As.reverse ++ rest) (hW : 2 * g.monitorRoom + (rest.map fun v => v.category).sum ≤ 8) (hdg : decode cc g.pc = .ok (.invokestatic index, 3)) (hf : cells + mc ≤ R.cells ∧ slots + ms ≤ R.slots) :
    va_Run p l e R s m args below meth c H locs cells slots mc ms g rest (Qc As.toArray) (free) := by
  obtain ⟨⟨hrc, hrs, hfr, hlo, hws, hcw⟩, hcode, hini, hy, hlen, hl, hstt⟩ := cw
  have hK : Back l R p e below s args y 3 8 (PreOf R mc ms Pc) (PostOf Qc mc ms free) := va_backW (hh := hh) (bytes := bytes) (maxL := maxL) (ret := ret) hM hp.1 hrc hrs hfr hlo hws hcw (fun a' U hW => word_at hW (Or.inl (by first | rfl | simp [Cond.onTables, Cond.keeps, Cond.steady])) hini)
  obtain ⟨hx, hb, hml, ho, -⟩ := S
  intro T hT X
  obtain ⟨v, vm₁, ⟨U', l2, c2, s2⟩, hW₁, X', ⟨g', mk, t, L, e1, e2, hq, h1, hL, h2, h3⟩, st⟩ := vx_callSW X hx (hh := hh) (bytes := bytes) (maxL := maxL) (ret := ret) ho hl hstt hini hcode hy hK hg (hsize.trans hml.symm) (argsL := As) (rest := rest) (fun sig h => hn.trans (hlen sig h)) hstack hW (by rw [hb]; exact hdg)
    (fun vm₁ hW₁ => ⟨hf.1, hf.2, hp.2 (T.setVm vm₁) hT hW₁⟩)
  dsimp only [Pt.U, Pt.locs, Pt.cells, Pt.slots] at X' e1 e2 h1 h2 h3 st
  subst h1; subst h2; subst h3
  exact ⟨v, (T.setVm vm₁).calling g' mk As.toArray, t, U', L, hT, X', hL, e1, e2, hq, st⟩
/-- not caught here, past rows that name other classes: it goes on to the caller -/
theorem vx_outP {p : Program} {l : Launch} {e : Env} {R : Room} {s : State} {m : MethodId} {args : Array Value} {below : List Frame} {meth : Method} {c : Code} {H : Heap} {locs : List Loc} {cells slots : Nat} {free : Addr → Prop} {ls : Array Slot} {rest : List Value} {Qc : Array Value → State → Outcome → State → Prop} {XC : String → State → State → Prop}
    {pc : Nat} {own E : String} {ce : Cell} {q : Addr} {mc ms : Nat} (hown : s.vm.findClass own = some m.cls) (hlocks : meth.locks = false)
    (hpass : ∀ z ∈ c.exceptionTable.toList, covers z pc = false ∨ (z.catchType ≠ 0 ∧ ∃ nm : String, (Cond.classLink own z.catchType nm).before args s = true ∧ va_Nc E nm s)) (hcell : H[q]? = some ce) (hv : ce.vm = .none) (hcl : s.vm.findClass E = some ce.cls)
    (hx : ∀ t : State, t.heap = H → s.vm.Alike t.vm → XC E s t) (hf : ∀ z ∈ locs, free z.base) (hc : cells ≤ mc) (hs : slots ≤ ms) :
    vx_W p l e R s m args below meth c H locs cells slots (vx_MQ below Qc XC args s mc ms free) (F0 m pc ls rest) q := by
  intro T hT X
  have hpl : e.platform.magicAccessors = ({} : Platform).magicAccessors := by rw [X.admits.platform]
  obtain ⟨vm', hW', X', st⟩ := X.outThrough hlocks q (g := F0 m pc ls rest) rfl rfl rfl (cell := ce) (by rw [hT]; exact hcell) (by rw [hv]; rfl)
    (by obtain ⟨k9, h9, -⟩ := Vm.findClass_spec hcl; exact ⟨k9, h9⟩) (fun z hz => by
      rcases hpass z hz with h | ⟨hz0, nm, hl1, hn1⟩
      · exact Or.inl h
      · obtain ⟨c6, hc6, hcl6⟩ := Cond.classLink_spec hown hl1 e.platform hpl
        obtain ⟨a8, b8, h1, h2, h3⟩ := hn1
        cases Option.some.inj (h1.symm.trans hcl)
        cases Option.some.inj (h2.symm.trans hc6)
        exact Or.inr ⟨hz0, _, hcl6, h3⟩)
  obtain ⟨g₀, hfr⟩ := X'.frames_eq
  have hcell9 : ((T.setVm vm').setFrames (.throwing q :: below)).heap[q]? = some ce := by
    show T.heap[q]? = some ce
    rw [hT]; exact hcell
  have hend : Ended ((T.setVm vm').setFrames (.throwing q :: below)) below (.threw q) := State.frames_setFrames _ (State.cur_lt_of_frames hfr)
  refine ⟨(T.setVm vm').setFrames (.throwing q :: below), ?_, .threw q, X'.here.running, hend, Or.inr ⟨q, rfl, E, ce, locs, hx _ hT (X'.ends _).1.alike, hcell9, hv, hcl, (X'.ends _).1, (X'.ends _).2.mono hc hs, hf⟩⟩
  rw [X.pushThrowing_eq]
  exact st
/-- a thing of a world lies in the heap -/
theorem vx_lt {D : va_G} {cl : List vw_C} {ws : va_W} {H1 : Heap} (h : va_P D cl ws H1) {k : Nat} {q : Nat × va_E} (hk : ws[k]? = some q) : q.1 < H1.size := (h k q hk).lt
end VXS
/-! ===== END ===== -/
/-! ===== BEGIN methods with a table of their own: called by a name, returning or throwing ===== -/
section VXH
/-! vx_backW, vx_callVX, vx_callSX, vx_callVW, vx_runVW, vx_runVX, vx_runSX, vx_ofWH follow the same proofs as their sisters above (Free/Laws.lean, Shelf42/LK1.lean); vx_outP calls Shelf42/NT130.lean (outThrough). -/
section
variable {l : Launch} {R : Room} {p : Program} {e : Env} {below : List Frame} {s : State} {sargs : Array Value} {y : MethodName} {len W9 : Nat}
theorem vx_backW {ws : List Cond} {rm : Room} {Pc : Array Value → State → Prop} {Qc : Array Value → State → Outcome → State → Prop} {XC : String → State → State → Prop} {mc ms : Nat} {free : Addr → Prop} {bytes : ByteArray} {maxL : Nat} {ret : Option FieldType} {hh : List (Nat × Nat × Nat × Nat)}
    (hM : vx_Met l y ws rm Pc Qc XC mc ms free) (hblind : FrameBlind Pc) (hrc : rm.cells = mc) (hrs : rm.slots = ms)
    (hframes : rm.frames + 1 ≤ R.frames) (hlocals : W9 + (maxL + 11) + rm.locals ≤ R.locals)
    (hws : ∀ w ∈ ws, ∀ a' U, s.WarmedH U.vm → w.before a' U = true) (hcode : Cond.codeWith y bytes maxL ret hh ∈ ws) (hinit : ∀ a' U, s.WarmedH U.vm → (Cond.initialized y.cls).before a' U = true) :
    vx_Back l R p e below s sargs y len W9 (PreOf R mc ms Pc) (PostOf Qc mc ms free) (vx_Post XC mc ms free) := by
  intro m meth c A g ig mk a X hg hsize hdg hW hn hp
  have h1 : (headSpec ws rm).pre.before a A.U = true := atoms_intro fun w hw => hws w hw _ _ X.warmed
  have h2 : (Cond.codeWith y bytes maxL ret hh).before a A.U = true := hws _ hcode _ _ X.warmed
  have h3 : (Cond.initialized y.cls).before a A.U = true := hinit _ _ X.warmed
  have h4 : A.cells + (headSpec ws rm).room.cells ≤ R.cells := by rw [show (headSpec ws rm).room.cells = mc from hrc]; exact hp.1
  have h5 : A.slots + (headSpec ws rm).room.slots ≤ R.slots := by rw [show (headSpec ws rm).room.slots = ms from hrs]; exact hp.2.1
  have hPc : Pc a (A.U.calling g mk a) := hblind _ _ _ _ hp.2.2
  obtain ⟨U, Ls, c0, s0⟩ := A
  dsimp only [Pt.U, Pt.locs, Pt.cells, Pt.slots] at h1 h2 h3 h4 h5 X hn hPc ⊢
  obtain ⟨m9, methY, cY, hn9, hmY, hcY, -, hlY, -⟩ := Cond.codeWith_spec h2
  cases Option.some.inj (hn9.symm.trans hn)
  obtain ⟨kY, hkY, -⟩ := className_of_methodNamed hn
  have hinitY : kY.init = .initialized := Cond.initialized_spec (findClass_of_methodNamed hn) hkY h3
  have h : At U g.method c below := by rw [hg]; exact X.here
  have hlocals9 : W9 + (maxL + 11) + (headSpec ws rm).room.locals ≤ R.locals := hlocals
  have happ : (headSpec ws rm).appliesLoose y e.platform (U.calling g mk a) = true :=
    Spec.appliesLoose_calling (g := g) h hdg hn hkY hinitY
      (X.room_calling (g := g) (R' := (headSpec ws rm).room) hsize hmY hcY hframes (by rw [hlY]; omega) h4 h5) h1
  obtain ⟨mid, hmid⟩ := h.above
  have hfr : (U.setTop g).frames = (.java g :: mid) ++ below := by rw [State.frames_setTop' g h.top, hmid]; rfl
  obtain ⟨o, s₂, hsteps, -, hend, hq⟩ := Steps.callFree hM p X.admits X.cas X.clock (acts := []) hfr happ hPc trivial
  have hq' : vx_Q Qc XC mc ms free a (U.calling g mk a) o s₂ := hq
  rw [State.frames_setTop' g h.top] at hend
  obtain ⟨g₀, hg0⟩ := Option.isSome_iff_exists.mp h.top
  obtain ⟨r, hr⟩ := State.topJava?_eq_some.mp hg0
  have hr' : (({ U with heap := s₂.heap, slotsUsed := s₂.slotsUsed } : State).setVm s₂.vm).frames = .java g₀ :: r := hr
  rcases hq' with ⟨hqc, L, hfe, hL⟩ | ⟨q, rfl, E, ce, L, hx, hce, hcv, hcl, hW₂, hsm, hL⟩
  · obtain ⟨⟨v, rfl⟩, hW₂, e2, q2, q3, q4, q5, q6⟩ := id hfe
    have e3 : s₂ = ({ (U.calling g mk a).setFrames s₂.frames with heap := s₂.heap, slotsUsed := s₂.slotsUsed } : State).setVm s₂.vm := by
      have : s₂ = ({ s₂ with vm := (U.calling g mk a).vm } : State).setVm s₂.vm := rfl
      rw [e2] at this
      exact this
    obtain ⟨c₂, i₂, len₂, hc₂, hd₂, hf₂⟩ := hend
    have hW' : U.WarmedH s₂.vm := hW₂
    have hcc : c₂ = c := by
      have h1 : s₂.code? g.method = U.code? g.method := by
        rw [State.code?_eq, State.code?_eq, hW'.alike.method?]
      exact Option.some.inj (hc₂.symm.trans (h1.trans h.code))
    subst hcc
    have hlen : len₂ = len := by rw [hdg] at hd₂; cases hd₂; rfl
    subst hlen
    have hs₂ : s₂ = (({ U with heap := s₂.heap, slotsUsed := s₂.slotsUsed } : State).setVm s₂.vm).setTop { g with pc := g.pc + len₂, stack := v.toList ++ g.stack } := by
      refine e3.trans ?_
      rw [hf₂, State.calling_eq h.top, State.setFrames_setFrames, State.setTop_of_frames _ hr', hr]
      rfl
    have hsame : U.sameButNew ({ U with heap := s₂.heap, slotsUsed := s₂.slotsUsed } : State) L mc ms := by
      refine ⟨?_, q2, q3, q4, q5, q6⟩
      obtain ⟨t, ht, -⟩ := State.frames_cons hr
      show ({ U with heap := s₂.heap, slotsUsed := s₂.slotsUsed } : State) = { U.setFrames U.frames with heap := s₂.heap, slotsUsed := s₂.slotsUsed }
      rw [State.setFrames_self ht]
    subst hg
    refine Or.inl ⟨v, ⟨(({ U with heap := s₂.heap, slotsUsed := s₂.slotsUsed } : State).setVm s₂.vm), Ls ++ L, c0 + mc, s0 + ms⟩,
      ⟨X.admits, X.cas, X.clock, X.frames, X.room, X.hears, X.method, X.code, (X.here.setHeapUsed s₂.heap s₂.slotsUsed).setVm hW'.alike, X.tail, State.WarmedH.trans X.warmed hW', X.limits, X.bytes, X.same.trans (hsame.setVm s.vm)⟩,
      ⟨g, mk, s₂, L, rfl, rfl, hqc, rfl, hL, rfl, rfl⟩, ?_⟩
    show Steps p.tables e below _ ((({ U with heap := s₂.heap, slotsUsed := s₂.slotsUsed } : State).setVm s₂.vm).setTop { g with pc := g.pc + len₂, stack := v.toList ++ g.stack })
    rw [← hs₂]
    exact hsteps
  · obtain ⟨e2, q2, q3, q4, q5, q6⟩ := id hsm
    have e3 : s₂ = ({ (U.calling g mk a).setFrames s₂.frames with heap := s₂.heap, slotsUsed := s₂.slotsUsed } : State).setVm s₂.vm := by
      have : s₂ = ({ s₂ with vm := (U.calling g mk a).vm } : State).setVm s₂.vm := rfl
      rw [e2] at this
      exact this
    have hf₂ : s₂.frames = .throwing q :: .java g :: U.frames.tail := hend
    have hW' : U.WarmedH s₂.vm := hW₂
    have hs₂ : s₂ = ((({ U with heap := s₂.heap, slotsUsed := s₂.slotsUsed } : State).setVm s₂.vm).setTop g).pushFrame (.throwing q) := by
      refine e3.trans ?_
      rw [hf₂, State.calling_eq h.top, State.setFrames_setFrames, State.pushFrame, State.frames_setTop _ hr', State.setTop_of_frames _ hr', State.setFrames_setFrames, hr]
      rfl
    have hsame : U.sameButNew ({ U with heap := s₂.heap, slotsUsed := s₂.slotsUsed } : State) L mc ms := by
      refine ⟨?_, q2, q3, q4, q5, q6⟩
      obtain ⟨t, ht, -⟩ := State.frames_cons hr
      show ({ U with heap := s₂.heap, slotsUsed := s₂.slotsUsed } : State) = { U.setFrames U.frames with heap := s₂.heap, slotsUsed := s₂.slotsUsed }
      rw [State.setFrames_self ht]
    subst hg
    refine Or.inr ⟨q, ⟨(({ U with heap := s₂.heap, slotsUsed := s₂.slotsUsed } : State).setVm s₂.vm), Ls ++ L, c0 + mc, s0 + ms⟩,
      ⟨X.admits, X.cas, X.clock, X.frames, X.room, X.hears, X.method, X.code, (X.here.setHeapUsed s₂.heap s₂.slotsUsed).setVm hW'.alike, X.tail, State.WarmedH.trans X.warmed hW', X.limits, X.bytes, X.same.trans (hsame.setVm s.vm)⟩,
      ⟨g, mk, s₂, L, E, ce, rfl, rfl, hx, hce, hcv, hcl, rfl, hL, rfl, rfl⟩, ?_⟩
    show Steps p.tables e below _ (((({ U with heap := s₂.heap, slotsUsed := s₂.slotsUsed } : State).setVm s₂.vm).setTop g).pushFrame (.throwing q))
    rw [← hs₂]
    exact hsteps
end
variable {p : Program} {l : Launch} {e : Env} {R : Room} {s : State} {m : MethodId} {args : Array Value} {below : List Frame} {meth : Method} {c : Code} {T : State} {H : Heap} {locs : List Loc} {cells slots : Nat}
theorem vx_callVX (X : Stand p l e R s m args below meth c T locs cells slots) (hexec : p.tables.exec = Jvm.exec) {own C : String} {index : Nat} {y : MethodName} {bytes : ByteArray} {maxL : Nat} {ret : Option FieldType} {hh : List (Nat × Nat × Nat × Nat)}
    (hown : s.vm.findClass own = some m.cls) (hlink : (Cond.methodLink own index y).before args s = true) (hinst : (Cond.instanceMethod y).before args s = true) (hsel : (Cond.selects C y y).before args s = true)
    (hcode : (Cond.codeWith y bytes maxL ret hh).before args s = true) (hy : y.cls ≠ "java/lang/invoke/MethodHandle" ∧ y.cls ≠ "java/lang/invoke/VarHandle")
    {W9 : Nat} {Pre : Pt → Array Value → Prop} {Post : Pt → Array Value → Option Value → Pt → Prop} {PostX : Pt → Array Value → Addr → Pt → Prop} (hK : vx_Back l R p e below s args y 3 W9 Pre Post PostX)
    {b : Addr} {cellB : Cell} (hcell : T.heap[b]? = some cellB) (hobj : cellB.vm.isStatics = false) (hcls : s.vm.findClass C = some cellB.cls)
    {g : JFrame} (hg : g.method = m) (hsize : g.locals.size = c.maxLocals) {argsL rest : List Value} (hlen : ∀ sig, parseMethodDescriptor y.desc = some sig → argsL.length = sig.parameters.length)
    (hstack : g.stack = argsL.reverse ++ .ref b :: rest) (hW : 2 * g.monitorRoom + (rest.map fun v => v.category).sum ≤ W9) (hdg : decode c.code g.pc = .ok (.invokevirtual index, 3))
    (hpre : ∀ vm₁, s.WarmedH vm₁ → Pre ⟨T.setVm vm₁, locs, cells, slots⟩ (Value.ref b :: argsL).toArray) :
    (∃ (v : Option Value) (vm₁ : Vm) (B : Pt), s.WarmedH vm₁ ∧ Stand p l e R s m args below meth c B.U B.locs B.cells B.slots ∧ Post ⟨T.setVm vm₁, locs, cells, slots⟩ (Value.ref b :: argsL).toArray v B ∧
      ∀ target, Steps p.tables e below (B.U.setTop { g with pc := g.pc + 3, stack := v.toList ++ rest }) target → Steps p.tables e below (T.setTop g) target) ∨
    (∃ (q : Addr) (vm₁ : Vm) (B : Pt), s.WarmedH vm₁ ∧ Stand p l e R s m args below meth c B.U B.locs B.cells B.slots ∧ PostX ⟨T.setVm vm₁, locs, cells, slots⟩ (Value.ref b :: argsL).toArray q B ∧
      Steps p.tables e below (T.setTop g) ((B.U.setTop { g with stack := rest }).pushFrame (.throwing q))) := by
  obtain ⟨mk, methM, hnamed, hmethM, hstM, habM⟩ := Cond.instanceMethod_spec hinst
  obtain ⟨m8, methM', cM, hn8, hmethM', -, -, -, -, -, -, hsigM⟩ := Cond.codeWith_spec hcode
  cases Option.some.inj (hn8.symm.trans hnamed)
  cases hmethM.symm.trans hmethM'
  obtain ⟨c2, r2, m2, q1, q2, q3, q4, kP, hkP, hkPi⟩ := Cond.selects_spec hsel
  cases hcls.symm.trans q1
  cases (State.methodFound?_of_named hnamed hy).symm.trans q2
  cases hnamed.symm.trans q3
  have hselP : selectMethod e.platform s.vm cellB.cls mk = .method mk := by rw [Launch.admits_selectMethod X.admits]; exact q4
  obtain ⟨vm₁, X₁, hstep₁⟩ := X.invokevirtual hexec hown hlink hnamed hmethM hstM hkP hkPi hy (a := b) (cell := cellB) hcell
    (fun z h => by rw [h] at hobj; cases hobj) hselP hmethM habM hkP hkPi (g := g) hg (argsL := argsL) (rest := rest) (hlen _ hsigM) hstack hdg
  rcases hK m meth c ⟨T.setVm vm₁, locs, cells, slots⟩ { g with stack := rest } (.invokevirtual index) mk (Value.ref b :: argsL).toArray X₁ hg hsize hdg hW (X₁.named hnamed) (hpre vm₁ X₁.warmed) with ⟨v, B, X', hpost, hsteps⟩ | ⟨q, B, X', hpost, hsteps⟩
  · exact Or.inl ⟨v, vm₁, B, X₁.warmed, X', hpost, fun target h => hstep₁ _ fun acts => by rw [doInvoke_state]; exact hsteps.trans h⟩
  · exact Or.inr ⟨q, vm₁, B, X₁.warmed, X', hpost, hstep₁ _ fun acts => by rw [doInvoke_state]; exact hsteps⟩
theorem vx_callSX (X : Stand p l e R s m args below meth c T locs cells slots) (hexec : p.tables.exec = Jvm.exec) {own : String} {index : Nat} {y : MethodName} {bytes : ByteArray} {maxL : Nat} {ret : Option FieldType} {hh : List (Nat × Nat × Nat × Nat)}
    (hown : s.vm.findClass own = some m.cls) (hlink : (Cond.methodLink own index y).before args s = true) (hstat : (Cond.static y).before args s = true) (hinit : (Cond.initialized y.cls).before args s = true)
    (hcode : (Cond.codeWith y bytes maxL ret hh).before args s = true) (hy : y.cls ≠ "java/lang/invoke/MethodHandle" ∧ y.cls ≠ "java/lang/invoke/VarHandle")
    {W9 : Nat} {Pre : Pt → Array Value → Prop} {Post : Pt → Array Value → Option Value → Pt → Prop} {PostX : Pt → Array Value → Addr → Pt → Prop} (hK : vx_Back l R p e below s args y 3 W9 Pre Post PostX)
    {g : JFrame} (hg : g.method = m) (hsize : g.locals.size = c.maxLocals) {argsL rest : List Value} (hlen : ∀ sig, parseMethodDescriptor y.desc = some sig → argsL.length = sig.parameters.length)
    (hstack : g.stack = argsL.reverse ++ rest) (hW : 2 * g.monitorRoom + (rest.map fun v => v.category).sum ≤ W9) (hdg : decode c.code g.pc = .ok (.invokestatic index, 3))
    (hpre : ∀ vm₁, s.WarmedH vm₁ → Pre ⟨T.setVm vm₁, locs, cells, slots⟩ argsL.toArray) :
    (∃ (v : Option Value) (vm₁ : Vm) (B : Pt), s.WarmedH vm₁ ∧ Stand p l e R s m args below meth c B.U B.locs B.cells B.slots ∧ Post ⟨T.setVm vm₁, locs, cells, slots⟩ argsL.toArray v B ∧
      ∀ target, Steps p.tables e below (B.U.setTop { g with pc := g.pc + 3, stack := v.toList ++ rest }) target → Steps p.tables e below (T.setTop g) target) ∨
    (∃ (q : Addr) (vm₁ : Vm) (B : Pt), s.WarmedH vm₁ ∧ Stand p l e R s m args below meth c B.U B.locs B.cells B.slots ∧ PostX ⟨T.setVm vm₁, locs, cells, slots⟩ argsL.toArray q B ∧
      Steps p.tables e below (T.setTop g) ((B.U.setTop { g with stack := rest }).pushFrame (.throwing q))) := by
  obtain ⟨mk, methM, cM, hnamed, hmethM, -, -, -, -, -, -, hsigM⟩ := Cond.codeWith_spec hcode
  have hstatic : methM.isStatic = true := Cond.static_spec hnamed hmethM hstat
  obtain ⟨kP, hkP, -⟩ := className_of_methodNamed hnamed
  have hinitP : kP.init = .initialized := Cond.initialized_spec (findClass_of_methodNamed hnamed) hkP hinit
  obtain ⟨vm₁, X₁, hstep₁⟩ := X.invokestatic hexec hown hlink hnamed hmethM hstatic hkP hinitP hy (g := g) hg (argsL := argsL) (rest := rest) (hlen _ hsigM) hstack hdg
  rcases hK m meth c ⟨T.setVm vm₁, locs, cells, slots⟩ { g with stack := rest } (.invokestatic index) mk argsL.toArray X₁ hg hsize hdg hW (X₁.named hnamed) (hpre vm₁ X₁.warmed) with ⟨v, B, X', hpost, hsteps⟩ | ⟨q, B, X', hpost, hsteps⟩
  · exact Or.inl ⟨v, vm₁, B, X₁.warmed, X', hpost, fun target h => hstep₁ _ fun acts => by rw [doInvoke_state]; exact hsteps.trans h⟩
  · exact Or.inr ⟨q, vm₁, B, X₁.warmed, X', hpost, hstep₁ _ fun acts => by rw [doInvoke_state]; exact hsteps⟩
theorem vx_callVW (X : Stand p l e R s m args below meth c T locs cells slots) (hexec : p.tables.exec = Jvm.exec) {own C : String} {index : Nat} {y : MethodName} {bytes : ByteArray} {maxL : Nat} {ret : Option FieldType} {hh : List (Nat × Nat × Nat × Nat)}
    (hown : s.vm.findClass own = some m.cls) (hlink : (Cond.methodLink own index y).before args s = true) (hinst : (Cond.instanceMethod y).before args s = true) (hsel : (Cond.selects C y y).before args s = true)
    (hcode : (Cond.codeWith y bytes maxL ret hh).before args s = true) (hy : y.cls ≠ "java/lang/invoke/MethodHandle" ∧ y.cls ≠ "java/lang/invoke/VarHandle")
    {W9 : Nat} {Pre : Pt → Array Value → Prop} {Post : Pt → Array Value → Option Value → Pt → Prop} (hK : Back l R p e below s args y 3 W9 Pre Post)
    {b : Addr} {cellB : Cell} (hcell : T.heap[b]? = some cellB) (hobj : cellB.vm.isStatics = false) (hcls : s.vm.findClass C = some cellB.cls)
    {g : JFrame} (hg : g.method = m) (hsize : g.locals.size = c.maxLocals) {argsL rest : List Value} (hlen : ∀ sig, parseMethodDescriptor y.desc = some sig → argsL.length = sig.parameters.length)
    (hstack : g.stack = argsL.reverse ++ .ref b :: rest) (hW : 2 * g.monitorRoom + (rest.map fun v => v.category).sum ≤ W9) (hdg : decode c.code g.pc = .ok (.invokevirtual index, 3))
    (hpre : ∀ vm₁, s.WarmedH vm₁ → Pre ⟨T.setVm vm₁, locs, cells, slots⟩ (Value.ref b :: argsL).toArray) :
    ∃ (v : Option Value) (vm₁ : Vm) (B : Pt), s.WarmedH vm₁ ∧ Stand p l e R s m args below meth c B.U B.locs B.cells B.slots ∧ Post ⟨T.setVm vm₁, locs, cells, slots⟩ (Value.ref b :: argsL).toArray v B ∧
      ∀ target, Steps p.tables e below (B.U.setTop { g with pc := g.pc + 3, stack := v.toList ++ rest }) target → Steps p.tables e below (T.setTop g) target := by
  obtain ⟨mk, methM, hnamed, hmethM, hstM, habM⟩ := Cond.instanceMethod_spec hinst
  obtain ⟨m8, methM', cM, hn8, hmethM', -, -, -, -, -, -, hsigM⟩ := Cond.codeWith_spec hcode
  cases Option.some.inj (hn8.symm.trans hnamed)
  cases hmethM.symm.trans hmethM'
  obtain ⟨c2, r2, m2, q1, q2, q3, q4, kP, hkP, hkPi⟩ := Cond.selects_spec hsel
  cases hcls.symm.trans q1
  cases (State.methodFound?_of_named hnamed hy).symm.trans q2
  cases hnamed.symm.trans q3
  have hselP : selectMethod e.platform s.vm cellB.cls mk = .method mk := by rw [Launch.admits_selectMethod X.admits]; exact q4
  obtain ⟨vm₁, X₁, hstep₁⟩ := X.invokevirtual hexec hown hlink hnamed hmethM hstM hkP hkPi hy (a := b) (cell := cellB) hcell
    (fun z h => by rw [h] at hobj; cases hobj) hselP hmethM habM hkP hkPi (g := g) hg (argsL := argsL) (rest := rest) (hlen _ hsigM) hstack hdg
  obtain ⟨v, B, X', hpost, hsteps⟩ := hK m meth c ⟨T.setVm vm₁, locs, cells, slots⟩ { g with stack := rest } (.invokevirtual index) mk (Value.ref b :: argsL).toArray X₁ hg hsize hdg hW (X₁.named hnamed) (hpre vm₁ X₁.warmed)
  exact ⟨v, vm₁, B, X₁.warmed, X', hpost, fun target h => hstep₁ _ fun acts => by rw [doInvoke_state]; exact hsteps.trans h⟩
abbrev vx_CVW (R : Room) (s : State) (args : Array Value) (own C : String) (index : Nat) (y : MethodName) (bytes : ByteArray) (maxL : Nat) (ret : Option FieldType) (hh : List (Nat × Nat × Nat × Nat)) (ws : List Cond) (rm : Room) (mc ms n : Nat) : Prop :=
  (rm.cells = mc ∧ rm.slots = ms ∧ rm.frames + 1 ≤ R.frames ∧ 8 + (maxL + 11) + rm.locals ≤ R.locals ∧ (∀ w ∈ ws, ∀ (a' : Array Value) (U : State), s.WarmedH U.vm → w.before a' U = true) ∧ Cond.codeWith y bytes maxL ret hh ∈ ws) ∧
  (Cond.codeWith y bytes maxL ret hh).before args s = true ∧ (Cond.initialized y.cls).before args s = true ∧ (y.cls ≠ "java/lang/invoke/MethodHandle" ∧ y.cls ≠ "java/lang/invoke/VarHandle") ∧
  (∀ sig, parseMethodDescriptor y.desc = some sig → n = sig.parameters.length) ∧ (Cond.methodLink own index y).before args s = true ∧ (Cond.instanceMethod y).before args s = true ∧ (Cond.selects C y y).before args s = true
theorem vx_cwVW {own C : String} {index maxL mc ms : Nat} {y : MethodName} {bytes : ByteArray} {ret : Option FieldType} {hh : List (Nat × Nat × Nat × Nat)} {Ts ws ws' : List Cond} {rm : Room} (n : Nat) (ht : ∀ w ∈ Ts, w.before args s = true) (hT : GoodIn Ts (wsV own index C y ws)) (hw : ws = Cond.codeWith y bytes maxL ret hh :: ws') (hrc : rm.cells = mc) (hrs : rm.slots = ms)
    (hd : y.cls = C ∧ y.cls ≠ "java/lang/invoke/MethodHandle" ∧ y.cls ≠ "java/lang/invoke/VarHandle" ∧ (parseMethodDescriptor y.desc).map (fun d => d.parameters.length) = some n) (hR : rm.frames + 1 ≤ R.frames ∧ 8 + (maxL + 11) + rm.locals ≤ R.locals) :
    vx_CVW R s args own C index y bytes maxL ret hh ws rm mc ms n := by
  obtain ⟨hC, hd⟩ := hd
  subst hC
  have ok : ∀ w ∈ wsV own index y.cls y ws, w.before args s = true := fun w h => ht w (hT w h).1
  have hG : GoodIn Ts ws := fun w h => hT w (by unfold wsV; exact List.mem_append_right _ h)
  have hc : Cond.codeWith y bytes maxL ret hh ∈ ws := by rw [hw]; exact List.mem_cons_self
  refine ⟨⟨hrc, hrs, hR.1, hR.2, pay_in ht hG, hc⟩, ht _ (hG _ hc).1, ok _ (by simp [wsV]), ⟨hd.1, hd.2.1⟩, fun sig h => ?_, ok _ (by simp [wsV]), ok _ (by simp [wsV]), ok _ (by simp [wsV])⟩
  have h2 := hd.2.2
  rw [h] at h2
  exact (Option.some.inj h2).symm
theorem vx_runVW {y : MethodName} {bytes cc : ByteArray} {maxL nL mc ms n index : Nat} {ret : Option FieldType} {hh : List (Nat × Nat × Nat × Nat)} {ws : List Cond} {rm : Room} {Pc : Array Value → State → Prop} {Qc : Array Value → State → Outcome → State → Prop} {free : Addr → Prop} {Ts : List Cond} {own C : String} {b : Addr} {As rest : List Value} {g : JFrame}
    (S : CallFix p m c cc nL s args Ts own) (hM : Met l y ws rm Pc Qc mc ms free) (cw : vx_CVW R s args own C index y bytes maxL ret hh ws rm mc ms n) (hp : PreV s H C b Pc As)
    (hg : g.method = m) (hn : As.length = n) (hsize : g.locals.size = nL) (hstack : g.stack = As.reverse ++ .ref b :: rest) (hW : 2 * g.monitorRoom + (rest.map fun v => v.category).sum ≤ 8) (hdg : decode cc g.pc = .ok (.invokevirtual index, 3)) (hf : cells + mc ≤ R.cells ∧ slots + ms ≤ R.slots) :
    va_Run p l e R s m args below meth c H locs cells slots mc ms g rest (Qc (Value.ref b :: As).toArray) free := by
  obtain ⟨⟨hrc, hrs, hfr, hlo, hws, hcw⟩, hcode, hini, hy, hlen, hl, hin, hse⟩ := cw
  have hK : Back l R p e below s args y 3 8 (PreOf R mc ms Pc) (PostOf Qc mc ms free) := va_backW (hh := hh) (bytes := bytes) (maxL := maxL) (ret := ret) hM hp.1 hrc hrs hfr hlo hws hcw (fun a' U hW => word_at hW (Or.inl (by first | rfl | simp [Cond.onTables, Cond.keeps, Cond.steady])) hini)
  obtain ⟨hx, hb, hml, ho, -⟩ := S
  obtain ⟨-, ⟨cellB, hcB, hoB, hclB⟩, hPc⟩ := hp
  intro T hT X
  obtain ⟨v, vm₁, ⟨U', l2, c2, s2⟩, hW₁, X', ⟨g', mk, t, L, e1, e2, hq, h1, hL, h2, h3⟩, st⟩ := vx_callVW X hx (C := C) (hh := hh) (bytes := bytes) (maxL := maxL) (ret := ret) ho hl hin hse hcode hy hK (by rw [hT]; exact hcB) hoB hclB hg (hsize.trans hml.symm) (argsL := As) (rest := rest) (fun sig h => hn.trans (hlen sig h)) hstack hW (by rw [hb]; exact hdg)
    (fun vm₁ hW₁ => ⟨hf.1, hf.2, hPc (T.setVm vm₁) hT hW₁⟩)
  dsimp only [Pt.U, Pt.locs, Pt.cells, Pt.slots] at X' e1 e2 h1 h2 h3 st
  subst h1; subst h2; subst h3
  exact ⟨v, (T.setVm vm₁).calling g' mk (Value.ref b :: As).toArray, t, U', L, hT, X', hL, e1, e2, hq, st⟩
section
variable {y : MethodName} {bytes cc : ByteArray} {maxL nL mc ms n index : Nat} {ret : Option FieldType} {ws : List Cond} {rm : Room} {Pc : Array Value → State → Prop} {Qc : Array Value → State → Outcome → State → Prop} {XC : String → State → State → Prop} {free : Addr → Prop} {Ts : List Cond} {own C : String} {b : Addr} {As rest : List Value} {g : JFrame}
theorem vx_runVX {hh : List (Nat × Nat × Nat × Nat)} (S : CallFix p m c cc nL s args Ts own) (hM : vx_Met l y ws rm Pc Qc XC mc ms free) (cw : vx_CVW R s args own C index y bytes maxL ret hh ws rm mc ms n) (hp : PreV s H C b Pc As)
    (hg : g.method = m) (hn : As.length = n) (hsize : g.locals.size = nL) (hstack : g.stack = As.reverse ++ .ref b :: rest) (hW : 2 * g.monitorRoom + (rest.map fun v => v.category).sum ≤ 8) (hdg : decode cc g.pc = .ok (.invokevirtual index, 3)) (hf : cells + mc ≤ R.cells ∧ slots + ms ≤ R.slots) :
    vx_Run p l e R s m args below meth c H locs cells slots mc ms g rest (Qc (Value.ref b :: As).toArray) XC free := by
  obtain ⟨⟨hrc, hrs, hfr, hlo, hws, hcw⟩, hcode, hini, hy, hlen, hl, hin, hse⟩ := cw
  have hK : vx_Back l R p e below s args y 3 8 (PreOf R mc ms Pc) (PostOf Qc mc ms free) (vx_Post XC mc ms free) := vx_backW (hh := hh) (bytes := bytes) (maxL := maxL) (ret := ret) hM hp.1 hrc hrs hfr hlo hws hcw (fun a' U hW => word_at hW (Or.inl (by first | rfl | simp [Cond.onTables, Cond.keeps, Cond.steady])) hini)
  obtain ⟨hx, hb, hml, ho, -⟩ := S
  obtain ⟨-, ⟨cellB, hcB, hoB, hclB⟩, hPc⟩ := hp
  intro T hT X
  rcases vx_callVX X hx (C := C) (hh := hh) (bytes := bytes) (maxL := maxL) (ret := ret) ho hl hin hse hcode hy hK (by rw [hT]; exact hcB) hoB hclB hg (hsize.trans hml.symm) (argsL := As) (rest := rest) (fun sig h => hn.trans (hlen sig h)) hstack hW (by rw [hb]; exact hdg)
    (fun vm₁ hW₁ => ⟨hf.1, hf.2, hPc (T.setVm vm₁) hT hW₁⟩) with ⟨v, vm₁, ⟨U', l2, c2, s2⟩, hW₁, X', ⟨g', mk, t, L, e1, e2, hq, h1, hL, h2, h3⟩, st⟩ | ⟨q, vm₁, ⟨U', l2, c2, s2⟩, hW₁, X', ⟨g', mk, t, L, E, ce, e1, e2, hq, hce, hcv, hcl, h1, hL, h2, h3⟩, st⟩
  · dsimp only [Pt.U, Pt.locs, Pt.cells, Pt.slots] at X' e1 e2 h1 h2 h3 st
    subst h1; subst h2; subst h3
    exact Or.inl ⟨v, (T.setVm vm₁).calling g' mk (Value.ref b :: As).toArray, t, U', L, hT, X', hL, e1, e2, hq, st⟩
  · dsimp only [Pt.U, Pt.locs, Pt.cells, Pt.slots] at X' e1 e2 h1 h2 h3 st hcl
    subst h1; subst h2; subst h3
    exact Or.inr ⟨q, (T.setVm vm₁).calling g' mk (Value.ref b :: As).toArray, t, U', L, E, ce, hT, X', hL, e1, e2, hq, hce, hcv, vx_cls hW₁ hcl, st⟩
theorem vx_runSX {hh : List (Nat × Nat × Nat × Nat)} (S : CallFix p m c cc nL s args Ts own) (hM : vx_Met l y ws rm Pc Qc XC mc ms free) (cw : vx_CSW R s args own index y bytes maxL ret hh ws rm mc ms n) (hp : PreS s H Pc As)
    (hg : g.method = m) (hn : As.length = n) (hsize : g.locals.size = nL) (hstack : g.stack = As.reverse ++ rest) (hW : 2 * g.monitorRoom + (rest.map fun v => v.category).sum ≤ 8) (hdg : decode cc g.pc = .ok (.invokestatic index, 3)) (hf : cells + mc ≤ R.cells ∧ slots + ms ≤ R.slots) :
    vx_Run p l e R s m args below meth c H locs cells slots mc ms g rest (Qc As.toArray) XC free := by
  obtain ⟨⟨hrc, hrs, hfr, hlo, hws, hcw⟩, hcode, hini, hy, hlen, hl, hstt⟩ := cw
  have hK : vx_Back l R p e below s args y 3 8 (PreOf R mc ms Pc) (PostOf Qc mc ms free) (vx_Post XC mc ms free) := vx_backW (hh := hh) (bytes := bytes) (maxL := maxL) (ret := ret) hM hp.1 hrc hrs hfr hlo hws hcw (fun a' U hW => word_at hW (Or.inl (by first | rfl | simp [Cond.onTables, Cond.keeps, Cond.steady])) hini)
  obtain ⟨hx, hb, hml, ho, -⟩ := S
  intro T hT X
  rcases vx_callSX X hx (hh := hh) (bytes := bytes) (maxL := maxL) (ret := ret) ho hl hstt hini hcode hy hK hg (hsize.trans hml.symm) (argsL := As) (rest := rest) (fun sig h => hn.trans (hlen sig h)) hstack hW (by rw [hb]; exact hdg)
    (fun vm₁ hW₁ => ⟨hf.1, hf.2, hp.2 (T.setVm vm₁) hT hW₁⟩) with ⟨v, vm₁, ⟨U', l2, c2, s2⟩, hW₁, X', ⟨g', mk, t, L, e1, e2, hq, h1, hL, h2, h3⟩, st⟩ | ⟨q, vm₁, ⟨U', l2, c2, s2⟩, hW₁, X', ⟨g', mk, t, L, E, ce, e1, e2, hq, hce, hcv, hcl, h1, hL, h2, h3⟩, st⟩
  · dsimp only [Pt.U, Pt.locs, Pt.cells, Pt.slots] at X' e1 e2 h1 h2 h3 st
    subst h1; subst h2; subst h3
    exact Or.inl ⟨v, (T.setVm vm₁).calling g' mk As.toArray, t, U', L, hT, X', hL, e1, e2, hq, st⟩
  · dsimp only [Pt.U, Pt.locs, Pt.cells, Pt.slots] at X' e1 e2 h1 h2 h3 st hcl
    subst h1; subst h2; subst h3
    exact Or.inr ⟨q, (T.setVm vm₁).calling g' mk As.toArray, t, U', L, E, ce, hT, X', hL, e1, e2, hq, hce, hcv, vx_cls hW₁ hcl, st⟩
end
end VXH
theorem vx_ofWH {l : Launch} {y : MethodName} {ws ws' : List Cond} {rm : Room} {Pc : Array Value → State → Prop} {Qc : Array Value → State → Outcome → State → Prop} {XC : String → State → State → Prop} {mc ms : Nat} {free : Addr → Prop} {cc : ByteArray} {maxL : Nat} {ret : Option FieldType} {hh : List (Nat × Nat × Nat × Nat)}
    (hy : plainName y.cls = true) (hw : ws = Cond.codeWith y cc maxL ret hh :: ws')
    (body : ∀ p e s m args below meth c s₁, BodyLoose p l y (headSpec ws rm) cc maxL ret e s m args below meth c s₁ → c.maxLocals = maxL → Pc args s →
      W p l e (headSpec ws rm).room s m args below meth c s.heap [] 0 0 (vx_MQ below Qc XC args s mc ms free) (entryFrame m args maxL)) : vx_Met l y ws rm Pc Qc XC mc ms free := by
  refine MetFree.of_bodyS (code := cc) (maxLocals := maxL) (ret := ret) hy ?_ ?_
  · intro args s m h hn
    obtain ⟨m9, meth, c, hn9, h1, h2, h3, h4, -, h5, h6, -⟩ := Cond.codeWith_spec (atoms_spec (ws := ws) h _ (by rw [hw]; exact List.mem_cons_self))
    cases hn.symm.trans hn9
    exact ⟨meth, c, h1, h2, h3, h4, h5, h6⟩
  · intro p e s m args below meth c s₁ B hml hP _
    have hh0 : s₁.heap = s.heap := by rw [B.state]; rfl
    obtain ⟨t, a1, o, b1, b2, b3⟩ := body p e s m args below meth c s₁ B hml hP s₁ hh0 (Stand.of_body B)
    exact ⟨t, o, a1, b1, b2, b3⟩
/-! ===== END ===== -/
end
section
/-! ===== BEGIN printed: names, fields, word lists, decode rows ===== -/
def RX0 : String := "ThawPoints$History"
def TX0 : u_T := fun k => match k with
  | 0 => ("ThawPoints$History", "size", "I", false)
  | 1 => ("ThawPoints$History", "oldest", "I", false)
  | _ => ("ThawPoints$History", "ring", "[LThawPoints$State;", true)
def tyX0 : Nat → FieldType := fun k => match k with
  | 0 => .int
  | 1 => .int
  | _ => .array (.object "ThawPoints$State")
abbrev wsX00 : List Cond := u_ws RX0 TX0 3
theorem nmX0 : ∀ a, a < 3 → ∀ b, b < 3 → a ≠ b → (TX0 a).2.1 ≠ (TX0 b).2.1 := by decide +kernel
theorem tyX0_ok : ∀ k, k < 3 → parseFieldDescriptor (TX0 k).2.2.1 = some (tyX0 k) := by decide +kernel
abbrev cX0_init : ByteArray := prog_2_method_1_code
def yX0_init : MethodName := ⟨RX0, "<init>", "()V"⟩
abbrev cX0_push : ByteArray := prog_2_method_2_code
def yX0_push : MethodName := ⟨RX0, "push", "(LThawPoints$State;)V"⟩
abbrev cX0_popInto : ByteArray := prog_2_method_3_code
def yX0_popInto : MethodName := ⟨RX0, "popInto", "(LThawPoints$State;)V"⟩
def RX1 : String := "ThawPoints$Points"
def TX1 : u_T := fun k => match k with
  | 0 => ("ThawPoints$Points", "size", "I", false)
  | 1 => ("ThawPoints$Points", "reading", "[I", true)
  | 2 => ("ThawPoints$Points", "degree", "[I", true)
  | 3 => ("ThawPoints$Points", "year", "[I", true)
  | 4 => ("ThawPoints$Points", "left", "[I", true)
  | 5 => ("ThawPoints$Points", "right", "[I", true)
  | 6 => ("ThawPoints$Points", "depth", "[I", true)
  | _ => ("ThawPoints$Points", "order", "[I", true)
def tyX1 : Nat → FieldType := fun k => match k with
  | 0 => .int
  | 1 => .array .int
  | 2 => .array .int
  | 3 => .array .int
  | 4 => .array .int
  | 5 => .array .int
  | 6 => .array .int
  | _ => .array .int
abbrev wsX10 : List Cond := u_ws RX1 TX1 8
theorem nmX1 : ∀ a, a < 8 → ∀ b, b < 8 → a ≠ b → (TX1 a).2.1 ≠ (TX1 b).2.1 := by decide +kernel
theorem tyX1_ok : ∀ k, k < 8 → parseFieldDescriptor (TX1 k).2.2.1 = some (tyX1 k) := by decide +kernel
abbrev cX1_init : ByteArray := prog_3_method_1_code
def yX1_init : MethodName := ⟨RX1, "<init>", "()V"⟩
abbrev cX1_copyFrom : ByteArray := prog_3_method_2_code
def yX1_copyFrom : MethodName := ⟨RX1, "copyFrom", "(LThawPoints$Points;)V"⟩
abbrev cX1_indexOf : ByteArray := prog_3_method_3_code
def yX1_indexOf : MethodName := ⟨RX1, "indexOf", "(I)I"⟩
abbrev cX1_crosses : ByteArray := prog_3_method_4_code
def yX1_crosses : MethodName := ⟨RX1, "crosses", "(II)Z"⟩
abbrev cX1_addLast : ByteArray := prog_3_method_5_code
def yX1_addLast : MethodName := ⟨RX1, "addLast", "(III)V"⟩
abbrev cX1_dropDegree : ByteArray := prog_3_method_6_code
def yX1_dropDegree : MethodName := ⟨RX1, "dropDegree", "(I)Z"⟩
abbrev cX1_hang : ByteArray := prog_3_method_7_code
def yX1_hang : MethodName := ⟨RX1, "hang", "(I)V"⟩
abbrev cX1_putInOrder : ByteArray := prog_3_method_8_code
def yX1_putInOrder : MethodName := ⟨RX1, "putInOrder", "(I)V"⟩
abbrev cX1_treeDepth : ByteArray := prog_3_method_9_code
def yX1_treeDepth : MethodName := ⟨RX1, "treeDepth", "()I"⟩
abbrev cX1_widestGap : ByteArray := prog_3_method_10_code
def yX1_widestGap : MethodName := ⟨RX1, "widestGap", "()I"⟩
abbrev cX1_correctByTree : ByteArray := prog_3_method_11_code
def yX1_correctByTree : MethodName := ⟨RX1, "correctByTree", "(I)I"⟩
abbrev cX1_lastUpTo : ByteArray := prog_3_method_12_code
def yX1_lastUpTo : MethodName := ⟨RX1, "lastUpTo", "(I)I"⟩
abbrev cX1_firstAbove : ByteArray := prog_3_method_13_code
def yX1_firstAbove : MethodName := ⟨RX1, "firstAbove", "(I)I"⟩
abbrev cX1_correctByOrder : ByteArray := prog_3_method_14_code
def yX1_correctByOrder : MethodName := ⟨RX1, "correctByOrder", "(I)I"⟩
abbrev cX1_onLine : ByteArray := prog_3_method_15_code
def yX1_onLine : MethodName := ⟨RX1, "onLine", "(III)I"⟩
def RX2 : String := "ThawPoints$State"
def TX2 : u_T := fun k => match k with
  | 0 => ("ThawPoints$State", "year", "I", false)
  | 1 => ("ThawPoints$State", "seals", "I", false)
  | 2 => ("ThawPoints$State", "size", "I", false)
  | 3 => ("ThawPoints$State", "stopPart", "I", false)
  | 4 => ("ThawPoints$State", "stopReason", "I", false)
  | 5 => ("ThawPoints$State", "baths", "[I", true)
  | 6 => ("ThawPoints$State", "settings", "[I", true)
  | _ => ("ThawPoints$State", "rows", "[LThawPoints$Thermometer;", true)
def tyX2 : Nat → FieldType := fun k => match k with
  | 0 => .int
  | 1 => .int
  | 2 => .int
  | 3 => .int
  | 4 => .int
  | 5 => .array .int
  | 6 => .array .int
  | _ => .array (.object "ThawPoints$Thermometer")
abbrev wsX20 : List Cond := u_ws RX2 TX2 8
theorem nmX2 : ∀ a, a < 8 → ∀ b, b < 8 → a ≠ b → (TX2 a).2.1 ≠ (TX2 b).2.1 := by decide +kernel
theorem tyX2_ok : ∀ k, k < 8 → parseFieldDescriptor (TX2 k).2.2.1 = some (tyX2 k) := by decide +kernel
abbrev cX2_init : ByteArray := prog_4_method_1_code
def yX2_init : MethodName := ⟨RX2, "<init>", "()V"⟩
abbrev cX2_copyFrom : ByteArray := prog_4_method_2_code
def yX2_copyFrom : MethodName := ⟨RX2, "copyFrom", "(LThawPoints$State;)V"⟩
abbrev cX2_has : ByteArray := prog_4_method_3_code
def yX2_has : MethodName := ⟨RX2, "has", "(I)Z"⟩
abbrev cX2_hasRoom : ByteArray := prog_4_method_4_code
def yX2_hasRoom : MethodName := ⟨RX2, "hasRoom", "()Z"⟩
abbrev cX2_addThermometer : ByteArray := prog_4_method_5_code
def yX2_addThermometer : MethodName := ⟨RX2, "addThermometer", "(III)V"⟩
abbrev cX2_removeThermometer : ByteArray := prog_4_method_6_code
def yX2_removeThermometer : MethodName := ⟨RX2, "removeThermometer", "(I)V"⟩
abbrev cX2_changeBath : ByteArray := prog_4_method_7_code
def yX2_changeBath : MethodName := ⟨RX2, "changeBath", "(II)V"⟩
abbrev cX2_letPass : ByteArray := prog_4_method_8_code
def yX2_letPass : MethodName := ⟨RX2, "letPass", "(I)V"⟩
abbrev cX2_creepOf : ByteArray := prog_4_method_9_code
def yX2_creepOf : MethodName := ⟨RX2, "creepOf", "(LThawPoints$Thermometer;)I"⟩
abbrev cX2_isValid : ByteArray := prog_4_method_10_code
def yX2_isValid : MethodName := ⟨RX2, "isValid", "(LThawPoints$Thermometer;)Z"⟩
abbrev cX2_reasonForNoPaper : ByteArray := prog_4_method_11_code
def yX2_reasonForNoPaper : MethodName := ⟨RX2, "reasonForNoPaper", "(LThawPoints$Thermometer;)I"⟩
abbrev cX2_isOld : ByteArray := prog_4_method_12_code
def yX2_isOld : MethodName := ⟨RX2, "isOld", "(I)Z"⟩
abbrev cX2_giveSeal : ByteArray := prog_4_method_13_code
def yX2_giveSeal : MethodName := ⟨RX2, "giveSeal", "(LThawPoints$Thermometer;)V"⟩
abbrev cX2_yearsUntilVoid : ByteArray := prog_4_method_14_code
def yX2_yearsUntilVoid : MethodName := ⟨RX2, "yearsUntilVoid", "(LThawPoints$Thermometer;)I"⟩
abbrev cX2_allPoints : ByteArray := prog_4_method_15_code
def yX2_allPoints : MethodName := ⟨RX2, "allPoints", "()I"⟩
abbrev cX2_validPapers : ByteArray := prog_4_method_16_code
def yX2_validPapers : MethodName := ⟨RX2, "validPapers", "()I"⟩
abbrev cX2_allCrept : ByteArray := prog_4_method_17_code
def yX2_allCrept : MethodName := ⟨RX2, "allCrept", "()I"⟩
def RX3 : String := "ThawPoints$Thermometer"
def TX3 : u_T := fun k => match k with
  | 0 => ("ThawPoints$Thermometer", "zero", "I", false)
  | 1 => ("ThawPoints$Thermometer", "gain", "I", false)
  | 2 => ("ThawPoints$Thermometer", "batch", "I", false)
  | 3 => ("ThawPoints$Thermometer", "age", "I", false)
  | 4 => ("ThawPoints$Thermometer", "crept", "I", false)
  | 5 => ("ThawPoints$Thermometer", "seal", "I", false)
  | 6 => ("ThawPoints$Thermometer", "creptAtSeal", "I", false)
  | _ => ("ThawPoints$Thermometer", "points", "LThawPoints$Points;", true)
def tyX3 : Nat → FieldType := fun k => match k with
  | 0 => .int
  | 1 => .int
  | 2 => .int
  | 3 => .int
  | 4 => .int
  | 5 => .int
  | 6 => .int
  | _ => .object "ThawPoints$Points"
abbrev wsX30 : List Cond := u_ws RX3 TX3 8
theorem nmX3 : ∀ a, a < 8 → ∀ b, b < 8 → a ≠ b → (TX3 a).2.1 ≠ (TX3 b).2.1 := by decide +kernel
theorem tyX3_ok : ∀ k, k < 8 → parseFieldDescriptor (TX3 k).2.2.1 = some (tyX3 k) := by decide +kernel
abbrev cX3_init : ByteArray := prog_5_method_1_code
def yX3_init : MethodName := ⟨RX3, "<init>", "()V"⟩
abbrev cX3_beginAnew : ByteArray := prog_5_method_2_code
def yX3_beginAnew : MethodName := ⟨RX3, "beginAnew", "(III)V"⟩
abbrev cX3_copyFrom : ByteArray := prog_5_method_3_code
def yX3_copyFrom : MethodName := ⟨RX3, "copyFrom", "(LThawPoints$Thermometer;)V"⟩
abbrev cX3_readingAt : ByteArray := prog_5_method_4_code
def yX3_readingAt : MethodName := ⟨RX3, "readingAt", "(I)I"⟩
abbrev cX3_growOlder : ByteArray := prog_5_method_5_code
def yX3_growOlder : MethodName := ⟨RX3, "growOlder", "(I)V"⟩
abbrev cX3_creepOfYear : ByteArray := prog_5_method_6_code
def yX3_creepOfYear : MethodName := ⟨RX3, "creepOfYear", "(II)I"⟩
abbrev cX3_reasonNotToMeasure : ByteArray := prog_5_method_7_code
def yX3_reasonNotToMeasure : MethodName := ⟨RX3, "reasonNotToMeasure", "(I)I"⟩
abbrev cX3_addPoint : ByteArray := prog_5_method_8_code
def yX3_addPoint : MethodName := ⟨RX3, "addPoint", "(II)V"⟩
abbrev cX3_overlapWith : ByteArray := prog_5_method_9_code
def yX3_overlapWith : MethodName := ⟨RX3, "overlapWith", "(LThawPoints$Thermometer;I)I"⟩
def RX4 : String := "ThawPoints$Works"
def TX4 : u_T := fun k => match k with
  | 0 => ("ThawPoints$Works", "length", "I", false)
  | 1 => ("ThawPoints$Works", "signs", "[C", true)
  | 2 => ("ThawPoints$Works", "at", "I", false)
  | 3 => ("ThawPoints$Works", "kind", "I", false)
  | 4 => ("ThawPoints$Works", "numbers", "[I", true)
  | _ => ("ThawPoints$Works", "numbersRead", "I", false)
def tyX4 : Nat → FieldType := fun k => match k with
  | 0 => .int
  | 1 => .array .char
  | 2 => .int
  | 3 => .int
  | 4 => .array .int
  | _ => .int
abbrev wsX40 : List Cond := u_ws RX4 TX4 6
theorem nmX4 : ∀ a, a < 6 → ∀ b, b < 6 → a ≠ b → (TX4 a).2.1 ≠ (TX4 b).2.1 := by decide +kernel
theorem tyX4_ok : ∀ k, k < 6 → parseFieldDescriptor (TX4 k).2.2.1 = some (tyX4 k) := by decide +kernel
abbrev cX4_init : ByteArray := prog_6_method_1_code
def yX4_init : MethodName := ⟨RX4, "<init>", "()V"⟩
abbrev cX4_addSign : ByteArray := prog_6_method_2_code
def yX4_addSign : MethodName := ⟨RX4, "addSign", "(I)V"⟩
abbrev cX4_readWorks : ByteArray := prog_6_method_3_code
def yX4_readWorks : MethodName := ⟨RX4, "readWorks", "()Z"⟩
abbrev cX4_readPart : ByteArray := prog_6_method_4_code
def yX4_readPart : MethodName := ⟨RX4, "readPart", "()Z"⟩
abbrev cX4_readSign : ByteArray := prog_6_method_5_code
def yX4_readSign : MethodName := ⟨RX4, "readSign", "(C)Z"⟩
abbrev cX4_nextSign : ByteArray := prog_6_method_6_code
def yX4_nextSign : MethodName := ⟨RX4, "nextSign", "()I"⟩
abbrev cX4_nextDigit : ByteArray := prog_6_method_7_code
def yX4_nextDigit : MethodName := ⟨RX4, "nextDigit", "()I"⟩
abbrev cX4_readNumber : ByteArray := prog_6_method_8_code
def yX4_readNumber : MethodName := ⟨RX4, "readNumber", "(II)Z"⟩
abbrev cX4_keepNumber : ByteArray := prog_6_method_9_code
def yX4_keepNumber : MethodName := ⟨RX4, "keepNumber", "(I)V"⟩
def RX5 : String := "ThawPoints"
def TX5 : u_T := fun k => match k with
  | 0 => ("ThawPoints", "state", "LThawPoints$State;", true)
  | 1 => ("ThawPoints", "snapshot", "LThawPoints$State;", true)
  | 2 => ("ThawPoints", "history", "LThawPoints$History;", true)
  | 3 => ("ThawPoints", "works", "LThawPoints$Works;", true)
  | _ => ("ThawPoints", "snapshotTaken", "Z", false)
def tyX5 : Nat → FieldType := fun k => match k with
  | 0 => .object "ThawPoints$State"
  | 1 => .object "ThawPoints$State"
  | 2 => .object "ThawPoints$History"
  | 3 => .object "ThawPoints$Works"
  | _ => .boolean
abbrev wsX50 : List Cond := u_ws RX5 TX5 5
theorem nmX5 : ∀ a, a < 5 → ∀ b, b < 5 → a ≠ b → (TX5 a).2.1 ≠ (TX5 b).2.1 := by decide +kernel
theorem tyX5_ok : ∀ k, k < 5 → parseFieldDescriptor (TX5 k).2.2.1 = some (tyX5 k) := by decide +kernel
abbrev cX5_init : ByteArray := prog_1_method_1_code
def yX5_init : MethodName := ⟨RX5, "<init>", "()V"⟩
abbrev cX5_make : ByteArray := prog_1_method_2_code
def yX5_make : MethodName := ⟨RX5, "make", "(III)I"⟩
abbrev cX5_breakOne : ByteArray := prog_1_method_3_code
def yX5_breakOne : MethodName := ⟨RX5, "breakOne", "(I)I"⟩
abbrev cX5_bath : ByteArray := prog_1_method_4_code
def yX5_bath : MethodName := ⟨RX5, "bath", "(II)I"⟩
abbrev cX5_pass : ByteArray := prog_1_method_5_code
def yX5_pass : MethodName := ⟨RX5, "pass", "(I)I"⟩
abbrev cX5_set : ByteArray := prog_1_method_6_code
def yX5_set : MethodName := ⟨RX5, "set", "(II)I"⟩
abbrev cX5_measure : ByteArray := prog_1_method_7_code
def yX5_measure : MethodName := ⟨RX5, "measure", "(II)I"⟩
abbrev cX5_forget : ByteArray := prog_1_method_8_code
def yX5_forget : MethodName := ⟨RX5, "forget", "(II)I"⟩
abbrev cX5_paper : ByteArray := prog_1_method_9_code
def yX5_paper : MethodName := ⟨RX5, "paper", "(I)I"⟩
abbrev cX5_append : ByteArray := prog_1_method_10_code
def yX5_append : MethodName := ⟨RX5, "append", "(I)I"⟩
abbrev cX5_clearBuffer : ByteArray := prog_1_method_11_code
def yX5_clearBuffer : MethodName := ⟨RX5, "clearBuffer", "()I"⟩
abbrev cX5_firstError : ByteArray := prog_1_method_12_code
def yX5_firstError : MethodName := ⟨RX5, "firstError", "()I"⟩
abbrev cX5_work : ByteArray := prog_1_method_13_code
def yX5_work : MethodName := ⟨RX5, "work", "()I"⟩
abbrev cX5_stopped : ByteArray := prog_1_method_14_code
def yX5_stopped : MethodName := ⟨RX5, "stopped", "(I)I"⟩
abbrev cX5_undo : ByteArray := prog_1_method_15_code
def yX5_undo : MethodName := ⟨RX5, "undo", "()I"⟩
abbrev cX5_keep : ByteArray := prog_1_method_16_code
def yX5_keep : MethodName := ⟨RX5, "keep", "()I"⟩
abbrev cX5_restore : ByteArray := prog_1_method_17_code
def yX5_restore : MethodName := ⟨RX5, "restore", "()I"⟩
abbrev cX5_reads : ByteArray := prog_1_method_18_code
def yX5_reads : MethodName := ⟨RX5, "reads", "(II)I"⟩
abbrev cX5_corrected : ByteArray := prog_1_method_19_code
def yX5_corrected : MethodName := ⟨RX5, "corrected", "(III)I"⟩
abbrev cX5_thermometer : ByteArray := prog_1_method_20_code
def yX5_thermometer : MethodName := ⟨RX5, "thermometer", "(II)I"⟩
abbrev cX5_point : ByteArray := prog_1_method_21_code
def yX5_point : MethodName := ⟨RX5, "point", "(III)I"⟩
abbrev cX5_count : ByteArray := prog_1_method_22_code
def yX5_count : MethodName := ⟨RX5, "count", "(I)I"⟩
abbrev cX5_whyNot : ByteArray := prog_1_method_23_code
def yX5_whyNot : MethodName := ⟨RX5, "whyNot", "(II)I"⟩
abbrev cX5_overlap : ByteArray := prog_1_method_24_code
def yX5_overlap : MethodName := ⟨RX5, "overlap", "(III)I"⟩
abbrev cX5_worstDegree : ByteArray := prog_1_method_25_code
def yX5_worstDegree : MethodName := ⟨RX5, "worstDegree", "(II)I"⟩
abbrev cX5_voidIn : ByteArray := prog_1_method_26_code
def yX5_voidIn : MethodName := ⟨RX5, "voidIn", "(I)I"⟩
abbrev cX5_validShare : ByteArray := prog_1_method_27_code
def yX5_validShare : MethodName := ⟨RX5, "validShare", "()D"⟩
abbrev cX5_digest : ByteArray := prog_1_method_28_code
def yX5_digest : MethodName := ⟨RX5, "digest", "()J"⟩
abbrev cX5_isWithin : ByteArray := prog_1_method_29_code
def yX5_isWithin : MethodName := ⟨RX5, "isWithin", "(III)Z"⟩
abbrev cX5_needThermometer : ByteArray := prog_1_method_30_code
def yX5_needThermometer : MethodName := ⟨RX5, "needThermometer", "(I)V"⟩
abbrev cX5_needBath : ByteArray := prog_1_method_31_code
def yX5_needBath : MethodName := ⟨RX5, "needBath", "(I)V"⟩
abbrev cX5_needDegree : ByteArray := prog_1_method_32_code
def yX5_needDegree : MethodName := ⟨RX5, "needDegree", "(I)V"⟩
abbrev cX5_tryPart : ByteArray := prog_1_method_33_code
def yX5_tryPart : MethodName := ⟨RX5, "tryPart", "()I"⟩
abbrev cX5_tryToMake : ByteArray := prog_1_method_34_code
def yX5_tryToMake : MethodName := ⟨RX5, "tryToMake", "(III)I"⟩
abbrev cX5_tryToMeasure : ByteArray := prog_1_method_35_code
def yX5_tryToMeasure : MethodName := ⟨RX5, "tryToMeasure", "(II)I"⟩
abbrev cX5_tryToSeal : ByteArray := prog_1_method_36_code
def yX5_tryToSeal : MethodName := ⟨RX5, "tryToSeal", "(I)I"⟩
abbrev cX5_mixed : ByteArray := prog_1_method_37_code
def yX5_mixed : MethodName := ⟨RX5, "mixed", "(JJ)J"⟩
abbrev cX5_mixedNumbers : ByteArray := prog_1_method_38_code
def yX5_mixedNumbers : MethodName := ⟨RX5, "mixedNumbers", "(JI)J"⟩
abbrev cX5_mixedReadings : ByteArray := prog_1_method_39_code
def yX5_mixedReadings : MethodName := ⟨RX5, "mixedReadings", "(JI)J"⟩
abbrev cX5_mixedOutlook : ByteArray := prog_1_method_40_code
def yX5_mixedOutlook : MethodName := ⟨RX5, "mixedOutlook", "(JI)J"⟩
abbrev cX5_bitsOf : ByteArray := prog_1_method_41_code
def yX5_bitsOf : MethodName := ⟨RX5, "bitsOf", "(D)J"⟩
def RX6 : String := "ThawPointsModel"
def TX6 : u_T := fun k => match k with
  | 0 => ("ThawPointsModel", "thrown", "I", false)
  | 1 => ("ThawPointsModel", "s", "[I", true)
  | 2 => ("ThawPointsModel", "saved", "[I", true)
  | 3 => ("ThawPointsModel", "savedMany", "I", false)
  | 4 => ("ThawPointsModel", "snapshot", "[I", true)
  | 5 => ("ThawPointsModel", "isKept", "Z", false)
  | 6 => ("ThawPointsModel", "text", "[I", true)
  | 7 => ("ThawPointsModel", "length", "I", false)
  | 8 => ("ThawPointsModel", "spot", "I", false)
  | 9 => ("ThawPointsModel", "isWrong", "Z", false)
  | 10 => ("ThawPointsModel", "letter", "I", false)
  | 11 => ("ThawPointsModel", "first", "I", false)
  | 12 => ("ThawPointsModel", "second", "I", false)
  | 13 => ("ThawPointsModel", "third", "I", false)
  | _ => ("ThawPointsModel", "digested", "J", false)
def tyX6 : Nat → FieldType := fun k => match k with
  | 0 => .int
  | 1 => .array .int
  | 2 => .array .int
  | 3 => .int
  | 4 => .array .int
  | 5 => .boolean
  | 6 => .array .int
  | 7 => .int
  | 8 => .int
  | 9 => .boolean
  | 10 => .int
  | 11 => .int
  | 12 => .int
  | 13 => .int
  | _ => .long
abbrev wsX60 : List Cond := u_ws RX6 TX6 15
theorem nmX6 : ∀ a, a < 15 → ∀ b, b < 15 → a ≠ b → (TX6 a).2.1 ≠ (TX6 b).2.1 := by decide +kernel
theorem tyX6_ok : ∀ k, k < 15 → parseFieldDescriptor (TX6 k).2.2.1 = some (tyX6 k) := by decide +kernel
abbrev cX6_init : ByteArray := prog_8_method_1_code
def yX6_init : MethodName := ⟨RX6, "<init>", "()V"⟩
abbrev cX6_thrown : ByteArray := prog_8_method_2_code
def yX6_thrown : MethodName := ⟨RX6, "thrown", "()I"⟩
abbrev cX6_in : ByteArray := prog_8_method_3_code
def yX6_in : MethodName := ⟨RX6, "in", "(III)Z"⟩
abbrev cX6_holds : ByteArray := prog_8_method_4_code
def yX6_holds : MethodName := ⟨RX6, "holds", "(I)Z"⟩
abbrev cX6_isThere : ByteArray := prog_8_method_5_code
def yX6_isThere : MethodName := ⟨RX6, "isThere", "(I)Z"⟩
abbrev cX6_isBath : ByteArray := prog_8_method_6_code
def yX6_isBath : MethodName := ⟨RX6, "isBath", "(I)Z"⟩
abbrev cX6_isDegree : ByteArray := prog_8_method_7_code
def yX6_isDegree : MethodName := ⟨RX6, "isDegree", "(I)Z"⟩
abbrev cX6_of : ByteArray := prog_8_method_8_code
def yX6_of : MethodName := ⟨RX6, "of", "(II)I"⟩
abbrev cX6_get : ByteArray := prog_8_method_9_code
def yX6_get : MethodName := ⟨RX6, "get", "(II)I"⟩
abbrev cX6_pointOf : ByteArray := prog_8_method_10_code
def yX6_pointOf : MethodName := ⟨RX6, "pointOf", "(III)I"⟩
abbrev cX6_save : ByteArray := prog_8_method_11_code
def yX6_save : MethodName := ⟨RX6, "save", "()V"⟩
abbrev cX6_divided : ByteArray := prog_8_method_12_code
def yX6_divided : MethodName := ⟨RX6, "divided", "(II)I"⟩
abbrev cX6_readingOf : ByteArray := prog_8_method_13_code
def yX6_readingOf : MethodName := ⟨RX6, "readingOf", "(II)I"⟩
abbrev cX6_pointAt : ByteArray := prog_8_method_14_code
def yX6_pointAt : MethodName := ⟨RX6, "pointAt", "(II)I"⟩
abbrev cX6_crosses : ByteArray := prog_8_method_15_code
def yX6_crosses : MethodName := ⟨RX6, "crosses", "(III)Z"⟩
abbrev cX6_hindrance : ByteArray := prog_8_method_16_code
def yX6_hindrance : MethodName := ⟨RX6, "hindrance", "(II)I"⟩
abbrev cX6_drops : ByteArray := prog_8_method_17_code
def yX6_drops : MethodName := ⟨RX6, "drops", "(II)I"⟩
abbrev cX6_measures : ByteArray := prog_8_method_18_code
def yX6_measures : MethodName := ⟨RX6, "measures", "(II)I"⟩
abbrev cX6_depthOf : ByteArray := prog_8_method_19_code
def yX6_depthOf : MethodName := ⟨RX6, "depthOf", "(II)I"⟩
abbrev cX6_depth : ByteArray := prog_8_method_20_code
def yX6_depth : MethodName := ⟨RX6, "depth", "(I)I"⟩
abbrev cX6_ranked : ByteArray := prog_8_method_21_code
def yX6_ranked : MethodName := ⟨RX6, "ranked", "(II)I"⟩
abbrev cX6_correction : ByteArray := prog_8_method_22_code
def yX6_correction : MethodName := ⟨RX6, "correction", "(II)I"⟩
abbrev cX6_areEnough : ByteArray := prog_8_method_23_code
def yX6_areEnough : MethodName := ⟨RX6, "areEnough", "(I)Z"⟩
abbrev cX6_overlapOf : ByteArray := prog_8_method_24_code
def yX6_overlapOf : MethodName := ⟨RX6, "overlapOf", "(III)I"⟩
abbrev cX6_isValid : ByteArray := prog_8_method_25_code
def yX6_isValid : MethodName := ⟨RX6, "isValid", "(I)Z"⟩
abbrev cX6_isOld : ByteArray := prog_8_method_26_code
def yX6_isOld : MethodName := ⟨RX6, "isOld", "(II)Z"⟩
abbrev cX6_differs : ByteArray := prog_8_method_27_code
def yX6_differs : MethodName := ⟨RX6, "differs", "(I)Z"⟩
abbrev cX6_refusal : ByteArray := prog_8_method_28_code
def yX6_refusal : MethodName := ⟨RX6, "refusal", "(I)I"⟩
abbrev cX6_seals : ByteArray := prog_8_method_29_code
def yX6_seals : MethodName := ⟨RX6, "seals", "(I)I"⟩
abbrev cX6_makes : ByteArray := prog_8_method_30_code
def yX6_makes : MethodName := ⟨RX6, "makes", "(III)I"⟩
abbrev cX6_passes : ByteArray := prog_8_method_31_code
def yX6_passes : MethodName := ⟨RX6, "passes", "(I)I"⟩
abbrev cX6_fills : ByteArray := prog_8_method_32_code
def yX6_fills : MethodName := ⟨RX6, "fills", "(II)I"⟩
abbrev cX6_make : ByteArray := prog_8_method_33_code
def yX6_make : MethodName := ⟨RX6, "make", "(III)I"⟩
abbrev cX6_breakOne : ByteArray := prog_8_method_34_code
def yX6_breakOne : MethodName := ⟨RX6, "breakOne", "(I)I"⟩
abbrev cX6_bath : ByteArray := prog_8_method_35_code
def yX6_bath : MethodName := ⟨RX6, "bath", "(II)I"⟩
abbrev cX6_pass : ByteArray := prog_8_method_36_code
def yX6_pass : MethodName := ⟨RX6, "pass", "(I)I"⟩
abbrev cX6_greatest : ByteArray := prog_8_method_37_code
def yX6_greatest : MethodName := ⟨RX6, "greatest", "(I)I"⟩
abbrev cX6_set : ByteArray := prog_8_method_38_code
def yX6_set : MethodName := ⟨RX6, "set", "(II)I"⟩
abbrev cX6_measure : ByteArray := prog_8_method_39_code
def yX6_measure : MethodName := ⟨RX6, "measure", "(II)I"⟩
abbrev cX6_forget : ByteArray := prog_8_method_40_code
def yX6_forget : MethodName := ⟨RX6, "forget", "(II)I"⟩
abbrev cX6_paper : ByteArray := prog_8_method_41_code
def yX6_paper : MethodName := ⟨RX6, "paper", "(I)I"⟩
abbrev cX6_append : ByteArray := prog_8_method_42_code
def yX6_append : MethodName := ⟨RX6, "append", "(I)I"⟩
abbrev cX6_clearBuffer : ByteArray := prog_8_method_43_code
def yX6_clearBuffer : MethodName := ⟨RX6, "clearBuffer", "()I"⟩
abbrev cX6_isNext : ByteArray := prog_8_method_44_code
def yX6_isNext : MethodName := ⟨RX6, "isNext", "(II)Z"⟩
abbrev cX6_takes : ByteArray := prog_8_method_45_code
def yX6_takes : MethodName := ⟨RX6, "takes", "(II)I"⟩
abbrev cX6_number : ByteArray := prog_8_method_46_code
def yX6_number : MethodName := ⟨RX6, "number", "(II)I"⟩
abbrev cX6_signed : ByteArray := prog_8_method_47_code
def yX6_signed : MethodName := ⟨RX6, "signed", "(II)I"⟩
abbrev cX6_readPart : ByteArray := prog_8_method_48_code
def yX6_readPart : MethodName := ⟨RX6, "readPart", "()V"⟩
abbrev cX6_reasonOfPart : ByteArray := prog_8_method_49_code
def yX6_reasonOfPart : MethodName := ⟨RX6, "reasonOfPart", "()I"⟩
abbrev cX6_doesPart : ByteArray := prog_8_method_50_code
def yX6_doesPart : MethodName := ⟨RX6, "doesPart", "()I"⟩
abbrev cX6_goesThrough : ByteArray := prog_8_method_51_code
def yX6_goesThrough : MethodName := ⟨RX6, "goesThrough", "(Z)I"⟩
abbrev cX6_firstError : ByteArray := prog_8_method_52_code
def yX6_firstError : MethodName := ⟨RX6, "firstError", "()I"⟩
abbrev cX6_work : ByteArray := prog_8_method_53_code
def yX6_work : MethodName := ⟨RX6, "work", "()I"⟩
abbrev cX6_stopped : ByteArray := prog_8_method_54_code
def yX6_stopped : MethodName := ⟨RX6, "stopped", "(I)I"⟩
abbrev cX6_undo : ByteArray := prog_8_method_55_code
def yX6_undo : MethodName := ⟨RX6, "undo", "()I"⟩
abbrev cX6_keep : ByteArray := prog_8_method_56_code
def yX6_keep : MethodName := ⟨RX6, "keep", "()I"⟩
abbrev cX6_restore : ByteArray := prog_8_method_57_code
def yX6_restore : MethodName := ⟨RX6, "restore", "()I"⟩
abbrev cX6_reads : ByteArray := prog_8_method_58_code
def yX6_reads : MethodName := ⟨RX6, "reads", "(II)I"⟩
abbrev cX6_correctedOr : ByteArray := prog_8_method_59_code
def yX6_correctedOr : MethodName := ⟨RX6, "correctedOr", "(II)I"⟩
abbrev cX6_corrected : ByteArray := prog_8_method_60_code
def yX6_corrected : MethodName := ⟨RX6, "corrected", "(III)I"⟩
abbrev cX6_widest : ByteArray := prog_8_method_61_code
def yX6_widest : MethodName := ⟨RX6, "widest", "(I)I"⟩
abbrev cX6_ofGlass : ByteArray := prog_8_method_62_code
def yX6_ofGlass : MethodName := ⟨RX6, "ofGlass", "(II)I"⟩
abbrev cX6_thermometer : ByteArray := prog_8_method_63_code
def yX6_thermometer : MethodName := ⟨RX6, "thermometer", "(II)I"⟩
abbrev cX6_ofPoint : ByteArray := prog_8_method_64_code
def yX6_ofPoint : MethodName := ⟨RX6, "ofPoint", "(III)I"⟩
abbrev cX6_point : ByteArray := prog_8_method_65_code
def yX6_point : MethodName := ⟨RX6, "point", "(III)I"⟩
abbrev cX6_sumOf : ByteArray := prog_8_method_66_code
def yX6_sumOf : MethodName := ⟨RX6, "sumOf", "(I)I"⟩
abbrev cX6_counted : ByteArray := prog_8_method_67_code
def yX6_counted : MethodName := ⟨RX6, "counted", "(I)I"⟩
abbrev cX6_count : ByteArray := prog_8_method_68_code
def yX6_count : MethodName := ⟨RX6, "count", "(I)I"⟩
abbrev cX6_whyNot : ByteArray := prog_8_method_69_code
def yX6_whyNot : MethodName := ⟨RX6, "whyNot", "(II)I"⟩
abbrev cX6_overlap : ByteArray := prog_8_method_70_code
def yX6_overlap : MethodName := ⟨RX6, "overlap", "(III)I"⟩
abbrev cX6_worst : ByteArray := prog_8_method_71_code
def yX6_worst : MethodName := ⟨RX6, "worst", "(II)I"⟩
abbrev cX6_worstDegree : ByteArray := prog_8_method_72_code
def yX6_worstDegree : MethodName := ⟨RX6, "worstDegree", "(II)I"⟩
abbrev cX6_yearsUntilVoid : ByteArray := prog_8_method_73_code
def yX6_yearsUntilVoid : MethodName := ⟨RX6, "yearsUntilVoid", "(I)I"⟩
abbrev cX6_voidIn : ByteArray := prog_8_method_74_code
def yX6_voidIn : MethodName := ⟨RX6, "voidIn", "(I)I"⟩
abbrev cX6_share : ByteArray := prog_8_method_75_code
def yX6_share : MethodName := ⟨RX6, "share", "()D"⟩
abbrev cX6_validShare : ByteArray := prog_8_method_76_code
def yX6_validShare : MethodName := ⟨RX6, "validShare", "()D"⟩
abbrev cX6_bitsOf : ByteArray := prog_8_method_77_code
def yX6_bitsOf : MethodName := ⟨RX6, "bitsOf", "(D)J"⟩
abbrev cX6_digestOne : ByteArray := prog_8_method_78_code
def yX6_digestOne : MethodName := ⟨RX6, "digestOne", "(J)V"⟩
abbrev cX6_digestGlass : ByteArray := prog_8_method_79_code
def yX6_digestGlass : MethodName := ⟨RX6, "digestGlass", "(I)V"⟩
abbrev cX6_digest : ByteArray := prog_8_method_80_code
def yX6_digest : MethodName := ⟨RX6, "digest", "()J"⟩
def RJx8e188 : String := "java/lang/Cloneable"
def TJx8e188 : u_T := fun k => match k with
  | _ => ("", "", "", false)
def tyJx8e188 : Nat → FieldType := fun k => match k with
  | _ => .int
abbrev wsJx8e1880 : List Cond := u_ws RJx8e188 TJx8e188 0
theorem nmJx8e188 : ∀ a, a < 0 → ∀ b, b < 0 → a ≠ b → (TJx8e188 a).2.1 ≠ (TJx8e188 b).2.1 := by decide +kernel
theorem tyJx8e188_ok : ∀ k, k < 0 → parseFieldDescriptor (TJx8e188 k).2.2.1 = some (tyJx8e188 k) := by decide +kernel
def RJ9 : String := "java/lang/Math"
def TJ9 : u_T := fun k => match k with
  | _ => ("", "", "", false)
def tyJ9 : Nat → FieldType := fun k => match k with
  | _ => .int
abbrev wsJ90 : List Cond := u_ws RJ9 TJ9 0
theorem nmJ9 : ∀ a, a < 0 → ∀ b, b < 0 → a ≠ b → (TJ9 a).2.1 ≠ (TJ9 b).2.1 := by decide +kernel
theorem tyJ9_ok : ∀ k, k < 0 → parseFieldDescriptor (TJ9 k).2.2.1 = some (tyJ9 k) := by decide +kernel
abbrev cJ9_floorDiv_7cf53 : ByteArray := prog_14_method_47_code
def yJ9_floorDiv_7cf53 : MethodName := ⟨RJ9, "floorDiv", "(II)I"⟩
abbrev cJ9_abs_0f7a4 : ByteArray := prog_14_method_59_code
def yJ9_abs_0f7a4 : MethodName := ⟨RJ9, "abs", "(I)I"⟩
abbrev cJ9_max_7cf53 : ByteArray := prog_14_method_65_code
def yJ9_max_7cf53 : MethodName := ⟨RJ9, "max", "(II)I"⟩
def RJ0 : String := "java/lang/String"
def TJ0 : u_T := fun k => match k with
  | _ => ("", "", "", false)
def tyJ0 : Nat → FieldType := fun k => match k with
  | _ => .int
abbrev wsJ00 : List Cond := u_ws RJ0 TJ0 0
theorem nmJ0 : ∀ a, a < 0 → ∀ b, b < 0 → a ≠ b → (TJ0 a).2.1 ≠ (TJ0 b).2.1 := by decide +kernel
theorem tyJ0_ok : ∀ k, k < 0 → parseFieldDescriptor (TJ0 k).2.2.1 = some (tyJ0 k) := by decide +kernel
def RJ10 : String := "java/lang/System"
def TJ10 : u_T := fun k => match k with
  | _ => ("", "", "", false)
def tyJ10 : Nat → FieldType := fun k => match k with
  | _ => .int
abbrev wsJ100 : List Cond := u_ws RJ10 TJ10 0
theorem nmJ10 : ∀ a, a < 0 → ∀ b, b < 0 → a ≠ b → (TJ10 a).2.1 ≠ (TJ10 b).2.1 := by decide +kernel
theorem tyJ10_ok : ∀ k, k < 0 → parseFieldDescriptor (TJ10 k).2.2.1 = some (tyJ10 k) := by decide +kernel
def RL : String := "ThawPointsLaw"
abbrev cL_make : ByteArray := method_3_code
def yL_make : MethodName := ⟨RL, "make", "(LThawPoints;III[J)I"⟩
abbrev cL_breakOne : ByteArray := method_4_code
def yL_breakOne : MethodName := ⟨RL, "breakOne", "(LThawPoints;I[J)I"⟩
abbrev cL_bath : ByteArray := method_5_code
def yL_bath : MethodName := ⟨RL, "bath", "(LThawPoints;II[J)I"⟩
abbrev cL_pass : ByteArray := method_6_code
def yL_pass : MethodName := ⟨RL, "pass", "(LThawPoints;I[J)I"⟩
abbrev cL_set : ByteArray := method_7_code
def yL_set : MethodName := ⟨RL, "set", "(LThawPoints;II[J)I"⟩
abbrev cL_measure : ByteArray := method_8_code
def yL_measure : MethodName := ⟨RL, "measure", "(LThawPoints;II[J)I"⟩
abbrev cL_forget : ByteArray := method_9_code
def yL_forget : MethodName := ⟨RL, "forget", "(LThawPoints;II[J)I"⟩
abbrev cL_paper : ByteArray := method_10_code
def yL_paper : MethodName := ⟨RL, "paper", "(LThawPoints;I[J)I"⟩
abbrev cL_append : ByteArray := method_11_code
def yL_append : MethodName := ⟨RL, "append", "(LThawPoints;I[J)I"⟩
abbrev cL_work : ByteArray := method_12_code
def yL_work : MethodName := ⟨RL, "work", "(LThawPoints;[J)I"⟩
abbrev cL_stopped : ByteArray := method_13_code
def yL_stopped : MethodName := ⟨RL, "stopped", "(LThawPoints;I[J)I"⟩
abbrev cL_undo : ByteArray := method_14_code
def yL_undo : MethodName := ⟨RL, "undo", "(LThawPoints;[J)I"⟩
abbrev cL_restore : ByteArray := method_15_code
def yL_restore : MethodName := ⟨RL, "restore", "(LThawPoints;[J)I"⟩
abbrev cL_reads : ByteArray := method_16_code
def yL_reads : MethodName := ⟨RL, "reads", "(LThawPoints;II[J)I"⟩
abbrev cL_corrected : ByteArray := method_17_code
def yL_corrected : MethodName := ⟨RL, "corrected", "(LThawPoints;III[J)I"⟩
abbrev cL_thermometer : ByteArray := method_18_code
def yL_thermometer : MethodName := ⟨RL, "thermometer", "(LThawPoints;II[J)I"⟩
abbrev cL_point : ByteArray := method_19_code
def yL_point : MethodName := ⟨RL, "point", "(LThawPoints;III[J)I"⟩
abbrev cL_count : ByteArray := method_20_code
def yL_count : MethodName := ⟨RL, "count", "(LThawPoints;I[J)I"⟩
abbrev cL_whyNot : ByteArray := method_21_code
def yL_whyNot : MethodName := ⟨RL, "whyNot", "(LThawPoints;II[J)I"⟩
abbrev cL_overlap : ByteArray := method_22_code
def yL_overlap : MethodName := ⟨RL, "overlap", "(LThawPoints;III[J)I"⟩
abbrev cL_worstDegree : ByteArray := method_23_code
def yL_worstDegree : MethodName := ⟨RL, "worstDegree", "(LThawPoints;II[J)I"⟩
abbrev cL_voidIn : ByteArray := method_24_code
def yL_voidIn : MethodName := ⟨RL, "voidIn", "(LThawPoints;I[J)I"⟩
abbrev cL_law : ByteArray := code
def yL_law : MethodName := ⟨RL, "law", "([I)Z"⟩
abbrev vwCl : List vw_C := [(RX0, TX0, 3), (RX1, TX1, 8), (RX2, TX2, 8), (RX3, TX3, 8), (RX4, TX4, 6), (RX5, TX5, 5), (RX6, TX6, 15)]
end
section
def WT : List Cond := lw_tbl.filter goodWord
theorem wt_of {i : Nat} {w : Cond} (h : lw_tbl[i]? = some w) (g : goodWord w = true) : w ∈ WT := List.mem_filter.mpr ⟨List.mem_of_getElem? h, g⟩
theorem wt_good : ∀ w ∈ WT, (w.onTables && w.keeps) = true ∨ ∃ ty, w = .arrayClass ty := fun w h => good_of_word (List.mem_filter.mp h).2
theorem wt_tbl {args : Array Value} {s : State} (h : ∀ w ∈ lw_tbl, w.before args s = true) : ∀ w ∈ WT, w.before args s = true := fun w hw => h w (List.mem_filter.mp hw).1
theorem wd_0 : (Jvm.Cond.selects "ThawPoints$Works" ⟨"ThawPoints$Works", "nextSign", "()I"⟩ ⟨"ThawPoints$Works", "nextSign", "()I"⟩) ∈ WT := wt_of (i := 0) (by decide +kernel) (by decide +kernel)
theorem wd_1 : (Jvm.Cond.selects "ThawPoints$Works" ⟨"ThawPoints$Works", "readNumber", "(II)Z"⟩ ⟨"ThawPoints$Works", "readNumber", "(II)Z"⟩) ∈ WT := wt_of (i := 1) (by decide +kernel) (by decide +kernel)
theorem wd_2 : (Jvm.Cond.selects "ThawPoints$Works" ⟨"ThawPoints$Works", "nextDigit", "()I"⟩ ⟨"ThawPoints$Works", "nextDigit", "()I"⟩) ∈ WT := wt_of (i := 2) (by decide +kernel) (by decide +kernel)
theorem wd_3 : (Jvm.Cond.selects "ThawPoints$Works" ⟨"ThawPoints$Works", "keepNumber", "(I)V"⟩ ⟨"ThawPoints$Works", "keepNumber", "(I)V"⟩) ∈ WT := wt_of (i := 3) (by decide +kernel) (by decide +kernel)
theorem wd_4 : (Jvm.Cond.selects "java/lang/Throwable" ⟨"java/lang/Throwable", "fillInStackTrace", "(I)Ljava/lang/Throwable;"⟩ ⟨"java/lang/Throwable", "fillInStackTrace", "(I)Ljava/lang/Throwable;"⟩) ∈ WT := wt_of (i := 4) (by decide +kernel) (by decide +kernel)
theorem wd_5 : (Jvm.Cond.selects "ThawPoints" ⟨"ThawPoints", "mixedNumbers", "(JI)J"⟩ ⟨"ThawPoints", "mixedNumbers", "(JI)J"⟩) ∈ WT := wt_of (i := 5) (by decide +kernel) (by decide +kernel)
theorem wd_6 : (Jvm.Cond.selects "ThawPoints" ⟨"ThawPoints", "needThermometer", "(I)V"⟩ ⟨"ThawPoints", "needThermometer", "(I)V"⟩) ∈ WT := wt_of (i := 6) (by decide +kernel) (by decide +kernel)
theorem wd_7 : (Jvm.Cond.selects "ThawPoints$State" ⟨"ThawPoints$State", "isOld", "(I)Z"⟩ ⟨"ThawPoints$State", "isOld", "(I)Z"⟩) ∈ WT := wt_of (i := 7) (by decide +kernel) (by decide +kernel)
theorem wd_8 : (Jvm.Cond.selects "ThawPoints$Points" ⟨"ThawPoints$Points", "lastUpTo", "(I)I"⟩ ⟨"ThawPoints$Points", "lastUpTo", "(I)I"⟩) ∈ WT := wt_of (i := 8) (by decide +kernel) (by decide +kernel)
theorem wd_9 : (Jvm.Cond.selects "ThawPoints$Points" ⟨"ThawPoints$Points", "firstAbove", "(I)I"⟩ ⟨"ThawPoints$Points", "firstAbove", "(I)I"⟩) ∈ WT := wt_of (i := 9) (by decide +kernel) (by decide +kernel)
theorem wd_10 : (Jvm.Cond.selects "ThawPoints$Points" ⟨"ThawPoints$Points", "onLine", "(III)I"⟩ ⟨"ThawPoints$Points", "onLine", "(III)I"⟩) ∈ WT := wt_of (i := 10) (by decide +kernel) (by decide +kernel)
theorem wd_11 : (Jvm.Cond.selects "ThawPoints" ⟨"ThawPoints", "mixedReadings", "(JI)J"⟩ ⟨"ThawPoints", "mixedReadings", "(JI)J"⟩) ∈ WT := wt_of (i := 11) (by decide +kernel) (by decide +kernel)
theorem wd_12 : (Jvm.Cond.selects "ThawPoints" ⟨"ThawPoints", "mixedOutlook", "(JI)J"⟩ ⟨"ThawPoints", "mixedOutlook", "(JI)J"⟩) ∈ WT := wt_of (i := 12) (by decide +kernel) (by decide +kernel)
theorem wd_13 : (Jvm.Cond.selects "ThawPoints$State" ⟨"ThawPoints$State", "creepOf", "(LThawPoints$Thermometer;)I"⟩ ⟨"ThawPoints$State", "creepOf", "(LThawPoints$Thermometer;)I"⟩) ∈ WT := wt_of (i := 13) (by decide +kernel) (by decide +kernel)
theorem wd_14 : (Jvm.Cond.selects "ThawPoints$Points" ⟨"ThawPoints$Points", "hang", "(I)V"⟩ ⟨"ThawPoints$Points", "hang", "(I)V"⟩) ∈ WT := wt_of (i := 14) (by decide +kernel) (by decide +kernel)
theorem wd_15 : (Jvm.Cond.selects "ThawPoints$Points" ⟨"ThawPoints$Points", "putInOrder", "(I)V"⟩ ⟨"ThawPoints$Points", "putInOrder", "(I)V"⟩) ∈ WT := wt_of (i := 15) (by decide +kernel) (by decide +kernel)
theorem wd_16 : (Jvm.Cond.selects "ThawPoints" ⟨"ThawPoints", "tryPart", "()I"⟩ ⟨"ThawPoints", "tryPart", "()I"⟩) ∈ WT := wt_of (i := 16) (by decide +kernel) (by decide +kernel)
theorem wd_17 : (Jvm.Cond.selects "ThawPoints" ⟨"ThawPoints", "tryToMake", "(III)I"⟩ ⟨"ThawPoints", "tryToMake", "(III)I"⟩) ∈ WT := wt_of (i := 17) (by decide +kernel) (by decide +kernel)
theorem wd_18 : (Jvm.Cond.selects "ThawPoints" ⟨"ThawPoints", "tryToMeasure", "(II)I"⟩ ⟨"ThawPoints", "tryToMeasure", "(II)I"⟩) ∈ WT := wt_of (i := 18) (by decide +kernel) (by decide +kernel)
theorem wd_19 : (Jvm.Cond.selects "ThawPoints" ⟨"ThawPoints", "tryToSeal", "(I)I"⟩ ⟨"ThawPoints", "tryToSeal", "(I)I"⟩) ∈ WT := wt_of (i := 19) (by decide +kernel) (by decide +kernel)
theorem wd_20 : (Jvm.Cond.selects "ThawPointsModel" ⟨"ThawPointsModel", "holds", "(I)Z"⟩ ⟨"ThawPointsModel", "holds", "(I)Z"⟩) ∈ WT := wt_of (i := 20) (by decide +kernel) (by decide +kernel)
theorem wd_21 : (Jvm.Cond.selects "ThawPointsModel" ⟨"ThawPointsModel", "save", "()V"⟩ ⟨"ThawPointsModel", "save", "()V"⟩) ∈ WT := wt_of (i := 21) (by decide +kernel) (by decide +kernel)
theorem wd_22 : (Jvm.Cond.selects "ThawPointsModel" ⟨"ThawPointsModel", "makes", "(III)I"⟩ ⟨"ThawPointsModel", "makes", "(III)I"⟩) ∈ WT := wt_of (i := 22) (by decide +kernel) (by decide +kernel)
theorem wd_23 : (Jvm.Cond.selects "ThawPointsModel" ⟨"ThawPointsModel", "isThere", "(I)Z"⟩ ⟨"ThawPointsModel", "isThere", "(I)Z"⟩) ∈ WT := wt_of (i := 23) (by decide +kernel) (by decide +kernel)
theorem wd_24 : (Jvm.Cond.selects "ThawPointsModel" ⟨"ThawPointsModel", "get", "(II)I"⟩ ⟨"ThawPointsModel", "get", "(II)I"⟩) ∈ WT := wt_of (i := 24) (by decide +kernel) (by decide +kernel)
theorem wd_25 : (Jvm.Cond.selects "ThawPointsModel" ⟨"ThawPointsModel", "fills", "(II)I"⟩ ⟨"ThawPointsModel", "fills", "(II)I"⟩) ∈ WT := wt_of (i := 25) (by decide +kernel) (by decide +kernel)
theorem wd_26 : (Jvm.Cond.selects "ThawPointsModel" ⟨"ThawPointsModel", "passes", "(I)I"⟩ ⟨"ThawPointsModel", "passes", "(I)I"⟩) ∈ WT := wt_of (i := 26) (by decide +kernel) (by decide +kernel)
theorem wd_27 : (Jvm.Cond.selects "ThawPointsModel" ⟨"ThawPointsModel", "hindrance", "(II)I"⟩ ⟨"ThawPointsModel", "hindrance", "(II)I"⟩) ∈ WT := wt_of (i := 27) (by decide +kernel) (by decide +kernel)
theorem wd_28 : (Jvm.Cond.selects "ThawPointsModel" ⟨"ThawPointsModel", "pointAt", "(II)I"⟩ ⟨"ThawPointsModel", "pointAt", "(II)I"⟩) ∈ WT := wt_of (i := 28) (by decide +kernel) (by decide +kernel)
theorem wd_29 : (Jvm.Cond.selects "ThawPointsModel" ⟨"ThawPointsModel", "pointOf", "(III)I"⟩ ⟨"ThawPointsModel", "pointOf", "(III)I"⟩) ∈ WT := wt_of (i := 29) (by decide +kernel) (by decide +kernel)
theorem wd_30 : (Jvm.Cond.selects "ThawPointsModel" ⟨"ThawPointsModel", "readingOf", "(II)I"⟩ ⟨"ThawPointsModel", "readingOf", "(II)I"⟩) ∈ WT := wt_of (i := 30) (by decide +kernel) (by decide +kernel)
theorem wd_31 : (Jvm.Cond.selects "ThawPointsModel" ⟨"ThawPointsModel", "crosses", "(III)Z"⟩ ⟨"ThawPointsModel", "crosses", "(III)Z"⟩) ∈ WT := wt_of (i := 31) (by decide +kernel) (by decide +kernel)
theorem wd_32 : (Jvm.Cond.selects "ThawPointsModel" ⟨"ThawPointsModel", "measures", "(II)I"⟩ ⟨"ThawPointsModel", "measures", "(II)I"⟩) ∈ WT := wt_of (i := 32) (by decide +kernel) (by decide +kernel)
theorem wd_33 : (Jvm.Cond.selects "ThawPointsModel" ⟨"ThawPointsModel", "drops", "(II)I"⟩ ⟨"ThawPointsModel", "drops", "(II)I"⟩) ∈ WT := wt_of (i := 33) (by decide +kernel) (by decide +kernel)
theorem wd_34 : (Jvm.Cond.selects "ThawPointsModel" ⟨"ThawPointsModel", "refusal", "(I)I"⟩ ⟨"ThawPointsModel", "refusal", "(I)I"⟩) ∈ WT := wt_of (i := 34) (by decide +kernel) (by decide +kernel)
theorem wd_35 : (Jvm.Cond.selects "ThawPointsModel" ⟨"ThawPointsModel", "isOld", "(II)Z"⟩ ⟨"ThawPointsModel", "isOld", "(II)Z"⟩) ∈ WT := wt_of (i := 35) (by decide +kernel) (by decide +kernel)
theorem wd_36 : (Jvm.Cond.selects "ThawPointsModel" ⟨"ThawPointsModel", "isValid", "(I)Z"⟩ ⟨"ThawPointsModel", "isValid", "(I)Z"⟩) ∈ WT := wt_of (i := 36) (by decide +kernel) (by decide +kernel)
theorem wd_37 : (Jvm.Cond.selects "ThawPointsModel" ⟨"ThawPointsModel", "differs", "(I)Z"⟩ ⟨"ThawPointsModel", "differs", "(I)Z"⟩) ∈ WT := wt_of (i := 37) (by decide +kernel) (by decide +kernel)
theorem wd_38 : (Jvm.Cond.selects "ThawPointsModel" ⟨"ThawPointsModel", "overlapOf", "(III)I"⟩ ⟨"ThawPointsModel", "overlapOf", "(III)I"⟩) ∈ WT := wt_of (i := 38) (by decide +kernel) (by decide +kernel)
theorem wd_39 : (Jvm.Cond.selects "ThawPointsModel" ⟨"ThawPointsModel", "areEnough", "(I)Z"⟩ ⟨"ThawPointsModel", "areEnough", "(I)Z"⟩) ∈ WT := wt_of (i := 39) (by decide +kernel) (by decide +kernel)
theorem wd_40 : (Jvm.Cond.selects "ThawPointsModel" ⟨"ThawPointsModel", "correction", "(II)I"⟩ ⟨"ThawPointsModel", "correction", "(II)I"⟩) ∈ WT := wt_of (i := 40) (by decide +kernel) (by decide +kernel)
theorem wd_41 : (Jvm.Cond.selects "ThawPointsModel" ⟨"ThawPointsModel", "ranked", "(II)I"⟩ ⟨"ThawPointsModel", "ranked", "(II)I"⟩) ∈ WT := wt_of (i := 41) (by decide +kernel) (by decide +kernel)
theorem wd_42 : (Jvm.Cond.selects "ThawPointsModel" ⟨"ThawPointsModel", "seals", "(I)I"⟩ ⟨"ThawPointsModel", "seals", "(I)I"⟩) ∈ WT := wt_of (i := 42) (by decide +kernel) (by decide +kernel)
theorem wd_43 : (Jvm.Cond.selects "ThawPointsModel" ⟨"ThawPointsModel", "goesThrough", "(Z)I"⟩ ⟨"ThawPointsModel", "goesThrough", "(Z)I"⟩) ∈ WT := wt_of (i := 43) (by decide +kernel) (by decide +kernel)
theorem wd_44 : (Jvm.Cond.selects "ThawPointsModel" ⟨"ThawPointsModel", "readPart", "()V"⟩ ⟨"ThawPointsModel", "readPart", "()V"⟩) ∈ WT := wt_of (i := 44) (by decide +kernel) (by decide +kernel)
theorem wd_45 : (Jvm.Cond.selects "ThawPointsModel" ⟨"ThawPointsModel", "signed", "(II)I"⟩ ⟨"ThawPointsModel", "signed", "(II)I"⟩) ∈ WT := wt_of (i := 45) (by decide +kernel) (by decide +kernel)
theorem wd_46 : (Jvm.Cond.selects "ThawPointsModel" ⟨"ThawPointsModel", "isNext", "(II)Z"⟩ ⟨"ThawPointsModel", "isNext", "(II)Z"⟩) ∈ WT := wt_of (i := 46) (by decide +kernel) (by decide +kernel)
theorem wd_47 : (Jvm.Cond.selects "ThawPointsModel" ⟨"ThawPointsModel", "number", "(II)I"⟩ ⟨"ThawPointsModel", "number", "(II)I"⟩) ∈ WT := wt_of (i := 47) (by decide +kernel) (by decide +kernel)
theorem wd_48 : (Jvm.Cond.selects "ThawPointsModel" ⟨"ThawPointsModel", "takes", "(II)I"⟩ ⟨"ThawPointsModel", "takes", "(II)I"⟩) ∈ WT := wt_of (i := 48) (by decide +kernel) (by decide +kernel)
theorem wd_49 : (Jvm.Cond.selects "ThawPointsModel" ⟨"ThawPointsModel", "reasonOfPart", "()I"⟩ ⟨"ThawPointsModel", "reasonOfPart", "()I"⟩) ∈ WT := wt_of (i := 49) (by decide +kernel) (by decide +kernel)
theorem wd_50 : (Jvm.Cond.selects "ThawPointsModel" ⟨"ThawPointsModel", "doesPart", "()I"⟩ ⟨"ThawPointsModel", "doesPart", "()I"⟩) ∈ WT := wt_of (i := 50) (by decide +kernel) (by decide +kernel)
theorem wd_51 : (Jvm.Cond.selects "ThawPointsModel" ⟨"ThawPointsModel", "correctedOr", "(II)I"⟩ ⟨"ThawPointsModel", "correctedOr", "(II)I"⟩) ∈ WT := wt_of (i := 51) (by decide +kernel) (by decide +kernel)
theorem wd_52 : (Jvm.Cond.selects "ThawPointsModel" ⟨"ThawPointsModel", "ofGlass", "(II)I"⟩ ⟨"ThawPointsModel", "ofGlass", "(II)I"⟩) ∈ WT := wt_of (i := 52) (by decide +kernel) (by decide +kernel)
theorem wd_53 : (Jvm.Cond.selects "ThawPointsModel" ⟨"ThawPointsModel", "depth", "(I)I"⟩ ⟨"ThawPointsModel", "depth", "(I)I"⟩) ∈ WT := wt_of (i := 53) (by decide +kernel) (by decide +kernel)
theorem wd_54 : (Jvm.Cond.selects "ThawPointsModel" ⟨"ThawPointsModel", "depthOf", "(II)I"⟩ ⟨"ThawPointsModel", "depthOf", "(II)I"⟩) ∈ WT := wt_of (i := 54) (by decide +kernel) (by decide +kernel)
theorem wd_55 : (Jvm.Cond.selects "ThawPointsModel" ⟨"ThawPointsModel", "widest", "(I)I"⟩ ⟨"ThawPointsModel", "widest", "(I)I"⟩) ∈ WT := wt_of (i := 55) (by decide +kernel) (by decide +kernel)
theorem wd_56 : (Jvm.Cond.selects "ThawPointsModel" ⟨"ThawPointsModel", "ofPoint", "(III)I"⟩ ⟨"ThawPointsModel", "ofPoint", "(III)I"⟩) ∈ WT := wt_of (i := 56) (by decide +kernel) (by decide +kernel)
theorem wd_57 : (Jvm.Cond.selects "ThawPointsModel" ⟨"ThawPointsModel", "counted", "(I)I"⟩ ⟨"ThawPointsModel", "counted", "(I)I"⟩) ∈ WT := wt_of (i := 57) (by decide +kernel) (by decide +kernel)
theorem wd_58 : (Jvm.Cond.selects "ThawPointsModel" ⟨"ThawPointsModel", "sumOf", "(I)I"⟩ ⟨"ThawPointsModel", "sumOf", "(I)I"⟩) ∈ WT := wt_of (i := 58) (by decide +kernel) (by decide +kernel)
theorem wd_59 : (Jvm.Cond.selects "ThawPointsModel" ⟨"ThawPointsModel", "worst", "(II)I"⟩ ⟨"ThawPointsModel", "worst", "(II)I"⟩) ∈ WT := wt_of (i := 59) (by decide +kernel) (by decide +kernel)
theorem wd_60 : (Jvm.Cond.selects "ThawPointsModel" ⟨"ThawPointsModel", "yearsUntilVoid", "(I)I"⟩ ⟨"ThawPointsModel", "yearsUntilVoid", "(I)I"⟩) ∈ WT := wt_of (i := 60) (by decide +kernel) (by decide +kernel)
theorem wd_61 : (Jvm.Cond.selects "ThawPointsModel" ⟨"ThawPointsModel", "share", "()D"⟩ ⟨"ThawPointsModel", "share", "()D"⟩) ∈ WT := wt_of (i := 61) (by decide +kernel) (by decide +kernel)
theorem wd_62 : (Jvm.Cond.selects "ThawPointsModel" ⟨"ThawPointsModel", "digestOne", "(J)V"⟩ ⟨"ThawPointsModel", "digestOne", "(J)V"⟩) ∈ WT := wt_of (i := 62) (by decide +kernel) (by decide +kernel)
theorem wd_63 : (Jvm.Cond.selects "ThawPointsModel" ⟨"ThawPointsModel", "digestGlass", "(I)V"⟩ ⟨"ThawPointsModel", "digestGlass", "(I)V"⟩) ∈ WT := wt_of (i := 63) (by decide +kernel) (by decide +kernel)
theorem wd_64 : (Jvm.Cond.initialized "ThawPointsLaw") ∈ WT := wt_of (i := 64) (by decide +kernel) (by decide +kernel)
theorem wd_65 : (Jvm.Cond.initialized "ThawPoints") ∈ WT := wt_of (i := 65) (by decide +kernel) (by decide +kernel)
theorem wd_66 : (Jvm.Cond.initialized "ThawPoints$State") ∈ WT := wt_of (i := 66) (by decide +kernel) (by decide +kernel)
theorem wd_67 : (Jvm.Cond.initialized "ThawPoints$Thermometer") ∈ WT := wt_of (i := 67) (by decide +kernel) (by decide +kernel)
theorem wd_68 : (Jvm.Cond.initialized "ThawPoints$Points") ∈ WT := wt_of (i := 68) (by decide +kernel) (by decide +kernel)
theorem wd_69 : (Jvm.Cond.initialized "ThawPoints$History") ∈ WT := wt_of (i := 69) (by decide +kernel) (by decide +kernel)
theorem wd_70 : (Jvm.Cond.initialized "ThawPoints$Works") ∈ WT := wt_of (i := 70) (by decide +kernel) (by decide +kernel)
theorem wd_71 : (Jvm.Cond.initialized "ThawPointsModel") ∈ WT := wt_of (i := 71) (by decide +kernel) (by decide +kernel)
theorem wd_72 : (Jvm.Cond.initialized "java/lang/Throwable") ∈ WT := wt_of (i := 72) (by decide +kernel) (by decide +kernel)
theorem wd_73 : (Jvm.Cond.initialized "java/lang/Exception") ∈ WT := wt_of (i := 73) (by decide +kernel) (by decide +kernel)
theorem wd_74 : (Jvm.Cond.initialized "java/lang/RuntimeException") ∈ WT := wt_of (i := 74) (by decide +kernel) (by decide +kernel)
theorem wd_75 : (Jvm.Cond.initialized "java/lang/IllegalArgumentException") ∈ WT := wt_of (i := 75) (by decide +kernel) (by decide +kernel)
theorem wd_76 : (Jvm.Cond.initialized "java/lang/IllegalStateException") ∈ WT := wt_of (i := 76) (by decide +kernel) (by decide +kernel)
theorem wd_77 : (Jvm.Cond.initialized "java/lang/System") ∈ WT := wt_of (i := 77) (by decide +kernel) (by decide +kernel)
theorem wd_78 : (Jvm.Cond.initialized "java/lang/IndexOutOfBoundsException") ∈ WT := wt_of (i := 78) (by decide +kernel) (by decide +kernel)
theorem wd_79 : (Jvm.Cond.initialized "java/lang/Math") ∈ WT := wt_of (i := 79) (by decide +kernel) (by decide +kernel)
theorem wd_80 : (Jvm.Cond.classLink "ThawPointsLaw" 8 "ThawPoints") ∈ WT := wt_of (i := 80) (by decide +kernel) (by decide +kernel)
theorem wd_81 : (Jvm.Cond.instantiable "ThawPoints" 5) ∈ WT := wt_of (i := 81) (by decide +kernel) (by decide +kernel)
theorem wd_82 : (Jvm.Cond.methodLink "ThawPointsLaw" 85 ⟨"ThawPoints", "<init>", "()V"⟩) ∈ WT := wt_of (i := 82) (by decide +kernel) (by decide +kernel)
theorem wd_83 : (Jvm.Cond.instanceMethod ⟨"ThawPoints", "<init>", "()V"⟩) ∈ WT := wt_of (i := 83) (by decide +kernel) (by decide +kernel)
theorem wd_84 : (Jvm.Cond.code ⟨"ThawPoints", "<init>", "()V"⟩ prog_1_method_1_code 1 none) ∈ WT := wt_of (i := 84) (by decide +kernel) (by decide +kernel)
theorem wd_85 : (Jvm.Cond.methodLink "ThawPoints" 1 ⟨"java/lang/Object", "<init>", "()V"⟩) ∈ WT := wt_of (i := 85) (by decide +kernel) (by decide +kernel)
theorem wd_86 : (Jvm.Cond.instanceMethod ⟨"java/lang/Object", "<init>", "()V"⟩) ∈ WT := wt_of (i := 86) (by decide +kernel) (by decide +kernel)
theorem wd_87 : (Jvm.Cond.code ⟨"java/lang/Object", "<init>", "()V"⟩ object_method_1_code 1 none) ∈ WT := wt_of (i := 87) (by decide +kernel) (by decide +kernel)
theorem wd_88 : (Jvm.Cond.classLink "ThawPoints" 7 "ThawPoints$State") ∈ WT := wt_of (i := 88) (by decide +kernel) (by decide +kernel)
theorem wd_89 : (Jvm.Cond.instantiable "ThawPoints$State" 8) ∈ WT := wt_of (i := 89) (by decide +kernel) (by decide +kernel)
theorem wd_90 : (Jvm.Cond.methodLink "ThawPoints" 9 ⟨"ThawPoints$State", "<init>", "()V"⟩) ∈ WT := wt_of (i := 90) (by decide +kernel) (by decide +kernel)
theorem wd_91 : (Jvm.Cond.instanceMethod ⟨"ThawPoints$State", "<init>", "()V"⟩) ∈ WT := wt_of (i := 91) (by decide +kernel) (by decide +kernel)
theorem wd_92 : (Jvm.Cond.code ⟨"ThawPoints$State", "<init>", "()V"⟩ prog_4_method_1_code 2 none) ∈ WT := wt_of (i := 92) (by decide +kernel) (by decide +kernel)
theorem wd_93 : (Jvm.Cond.methodLink "ThawPoints$State" 3 ⟨"java/lang/Object", "<init>", "()V"⟩) ∈ WT := wt_of (i := 93) (by decide +kernel) (by decide +kernel)
theorem wd_96 : (Jvm.Cond.methodLink "ThawPoints$State" 22 ⟨"[I", "clone", "()Ljava/lang/Object;"⟩) ∈ WT := wt_of (i := 96) (by decide +kernel) (by decide +kernel)
theorem wd_98 : (Jvm.Cond.native ⟨"java/lang/Object", "clone", "()Ljava/lang/Object;"⟩) ∈ WT := wt_of (i := 98) (by decide +kernel) (by decide +kernel)
theorem wd_99 : (Jvm.Cond.instanceMethod ⟨"java/lang/Object", "clone", "()Ljava/lang/Object;"⟩) ∈ WT := wt_of (i := 99) (by decide +kernel) (by decide +kernel)
theorem wd_100 : (Jvm.Cond.selects "[I" ⟨"[I", "clone", "()Ljava/lang/Object;"⟩ ⟨"java/lang/Object", "clone", "()Ljava/lang/Object;"⟩) ∈ WT := wt_of (i := 100) (by decide +kernel) (by decide +kernel)
theorem wd_102 : (Jvm.Cond.classLink "ThawPoints$State" 23 "[I") ∈ WT := wt_of (i := 102) (by decide +kernel) (by decide +kernel)
theorem wd_105 : (Jvm.Cond.classLink "ThawPoints$State" 36 "ThawPoints$Thermometer") ∈ WT := wt_of (i := 105) (by decide +kernel) (by decide +kernel)
theorem wd_107 : (Jvm.Cond.instantiable "ThawPoints$Thermometer" 8) ∈ WT := wt_of (i := 107) (by decide +kernel) (by decide +kernel)
theorem wd_109 : (Jvm.Cond.instanceMethod ⟨"ThawPoints$Thermometer", "<init>", "()V"⟩) ∈ WT := wt_of (i := 109) (by decide +kernel) (by decide +kernel)
theorem wd_110 : (Jvm.Cond.code ⟨"ThawPoints$Thermometer", "<init>", "()V"⟩ prog_5_method_1_code 1 none) ∈ WT := wt_of (i := 110) (by decide +kernel) (by decide +kernel)
theorem wd_111 : (Jvm.Cond.methodLink "ThawPoints$Thermometer" 3 ⟨"java/lang/Object", "<init>", "()V"⟩) ∈ WT := wt_of (i := 111) (by decide +kernel) (by decide +kernel)
theorem wd_112 : (Jvm.Cond.classLink "ThawPoints$Thermometer" 15 "ThawPoints$Points") ∈ WT := wt_of (i := 112) (by decide +kernel) (by decide +kernel)
theorem wd_113 : (Jvm.Cond.instantiable "ThawPoints$Points" 8) ∈ WT := wt_of (i := 113) (by decide +kernel) (by decide +kernel)
theorem wd_115 : (Jvm.Cond.instanceMethod ⟨"ThawPoints$Points", "<init>", "()V"⟩) ∈ WT := wt_of (i := 115) (by decide +kernel) (by decide +kernel)
theorem wd_116 : (Jvm.Cond.code ⟨"ThawPoints$Points", "<init>", "()V"⟩ prog_3_method_1_code 1 none) ∈ WT := wt_of (i := 116) (by decide +kernel) (by decide +kernel)
theorem wd_117 : (Jvm.Cond.methodLink "ThawPoints$Points" 3 ⟨"java/lang/Object", "<init>", "()V"⟩) ∈ WT := wt_of (i := 117) (by decide +kernel) (by decide +kernel)
theorem wd_118 : (Jvm.Cond.fieldLink "ThawPoints$Points" 33 "ThawPoints$Points" "size" "I") ∈ WT := wt_of (i := 118) (by decide +kernel) (by decide +kernel)
theorem wd_119 : (Jvm.Cond.fieldLink "ThawPoints$Thermometer" 40 "ThawPoints$Points" "size" "I") ∈ WT := wt_of (i := 119) (by decide +kernel) (by decide +kernel)
theorem wd_120 : (Jvm.Cond.fieldLink "ThawPoints" 79 "ThawPoints$Points" "size" "I") ∈ WT := wt_of (i := 120) (by decide +kernel) (by decide +kernel)
theorem wd_121 : (Jvm.Cond.fieldLink "ThawPoints$State" 124 "ThawPoints$Points" "size" "I") ∈ WT := wt_of (i := 121) (by decide +kernel) (by decide +kernel)
theorem wd_122 : (Jvm.Cond.fieldLink "ThawPoints$Points" 9 "ThawPoints$Points" "reading" "[I") ∈ WT := wt_of (i := 122) (by decide +kernel) (by decide +kernel)
theorem wd_123 : (Jvm.Cond.fieldLink "ThawPoints" 237 "ThawPoints$Points" "reading" "[I") ∈ WT := wt_of (i := 123) (by decide +kernel) (by decide +kernel)
theorem wd_124 : (Jvm.Cond.fieldLink "ThawPoints$Points" 15 "ThawPoints$Points" "degree" "[I") ∈ WT := wt_of (i := 124) (by decide +kernel) (by decide +kernel)
theorem wd_125 : (Jvm.Cond.fieldLink "ThawPoints" 240 "ThawPoints$Points" "degree" "[I") ∈ WT := wt_of (i := 125) (by decide +kernel) (by decide +kernel)
theorem wd_126 : (Jvm.Cond.fieldLink "ThawPoints$Points" 18 "ThawPoints$Points" "year" "[I") ∈ WT := wt_of (i := 126) (by decide +kernel) (by decide +kernel)
theorem wd_127 : (Jvm.Cond.fieldLink "ThawPoints$State" 104 "ThawPoints$Points" "year" "[I") ∈ WT := wt_of (i := 127) (by decide +kernel) (by decide +kernel)
theorem wd_128 : (Jvm.Cond.fieldLink "ThawPoints" 243 "ThawPoints$Points" "year" "[I") ∈ WT := wt_of (i := 128) (by decide +kernel) (by decide +kernel)
theorem wd_129 : (Jvm.Cond.fieldLink "ThawPoints$Points" 21 "ThawPoints$Points" "left" "[I") ∈ WT := wt_of (i := 129) (by decide +kernel) (by decide +kernel)
theorem wd_130 : (Jvm.Cond.fieldLink "ThawPoints$Points" 24 "ThawPoints$Points" "right" "[I") ∈ WT := wt_of (i := 130) (by decide +kernel) (by decide +kernel)
theorem wd_131 : (Jvm.Cond.fieldLink "ThawPoints$Points" 27 "ThawPoints$Points" "depth" "[I") ∈ WT := wt_of (i := 131) (by decide +kernel) (by decide +kernel)
theorem wd_132 : (Jvm.Cond.fieldLink "ThawPoints" 245 "ThawPoints$Points" "depth" "[I") ∈ WT := wt_of (i := 132) (by decide +kernel) (by decide +kernel)
theorem wd_133 : (Jvm.Cond.fieldLink "ThawPoints$Points" 30 "ThawPoints$Points" "order" "[I") ∈ WT := wt_of (i := 133) (by decide +kernel) (by decide +kernel)
theorem wd_134 : (Jvm.Cond.fieldLink "ThawPoints" 234 "ThawPoints$Points" "order" "[I") ∈ WT := wt_of (i := 134) (by decide +kernel) (by decide +kernel)
theorem wd_135 : (Jvm.Cond.lays "ThawPoints$Points" "ThawPoints$Points" "size" "I") ∈ WT := wt_of (i := 135) (by decide +kernel) (by decide +kernel)
theorem wd_137 : (Jvm.Cond.laysFinal "ThawPoints$Points" "ThawPoints$Points" "reading" "[I") ∈ WT := wt_of (i := 137) (by decide +kernel) (by decide +kernel)
theorem wd_139 : (Jvm.Cond.laysFinal "ThawPoints$Points" "ThawPoints$Points" "degree" "[I") ∈ WT := wt_of (i := 139) (by decide +kernel) (by decide +kernel)
theorem wd_141 : (Jvm.Cond.laysFinal "ThawPoints$Points" "ThawPoints$Points" "year" "[I") ∈ WT := wt_of (i := 141) (by decide +kernel) (by decide +kernel)
theorem wd_143 : (Jvm.Cond.laysFinal "ThawPoints$Points" "ThawPoints$Points" "left" "[I") ∈ WT := wt_of (i := 143) (by decide +kernel) (by decide +kernel)
theorem wd_145 : (Jvm.Cond.laysFinal "ThawPoints$Points" "ThawPoints$Points" "right" "[I") ∈ WT := wt_of (i := 145) (by decide +kernel) (by decide +kernel)
theorem wd_147 : (Jvm.Cond.laysFinal "ThawPoints$Points" "ThawPoints$Points" "depth" "[I") ∈ WT := wt_of (i := 147) (by decide +kernel) (by decide +kernel)
theorem wd_149 : (Jvm.Cond.laysFinal "ThawPoints$Points" "ThawPoints$Points" "order" "[I") ∈ WT := wt_of (i := 149) (by decide +kernel) (by decide +kernel)
theorem wd_152 : (Jvm.Cond.arrayClass Jvm.ClassFile.FieldType.int) ∈ WT := wt_of (i := 152) (by decide +kernel) (by decide +kernel)
theorem wd_153 : (Jvm.Cond.fieldLink "ThawPoints$Thermometer" 22 "ThawPoints$Thermometer" "zero" "I") ∈ WT := wt_of (i := 153) (by decide +kernel) (by decide +kernel)
theorem wd_154 : (Jvm.Cond.fieldLink "ThawPoints$Thermometer" 25 "ThawPoints$Thermometer" "gain" "I") ∈ WT := wt_of (i := 154) (by decide +kernel) (by decide +kernel)
theorem wd_155 : (Jvm.Cond.fieldLink "ThawPoints$Thermometer" 28 "ThawPoints$Thermometer" "batch" "I") ∈ WT := wt_of (i := 155) (by decide +kernel) (by decide +kernel)
theorem wd_156 : (Jvm.Cond.fieldLink "ThawPoints$State" 82 "ThawPoints$Thermometer" "batch" "I") ∈ WT := wt_of (i := 156) (by decide +kernel) (by decide +kernel)
theorem wd_157 : (Jvm.Cond.fieldLink "ThawPoints" 209 "ThawPoints$Thermometer" "batch" "I") ∈ WT := wt_of (i := 157) (by decide +kernel) (by decide +kernel)
theorem wd_158 : (Jvm.Cond.fieldLink "ThawPoints$Thermometer" 31 "ThawPoints$Thermometer" "age" "I") ∈ WT := wt_of (i := 158) (by decide +kernel) (by decide +kernel)
theorem wd_159 : (Jvm.Cond.fieldLink "ThawPoints$State" 117 "ThawPoints$Thermometer" "age" "I") ∈ WT := wt_of (i := 159) (by decide +kernel) (by decide +kernel)
theorem wd_160 : (Jvm.Cond.fieldLink "ThawPoints" 212 "ThawPoints$Thermometer" "age" "I") ∈ WT := wt_of (i := 160) (by decide +kernel) (by decide +kernel)
theorem wd_161 : (Jvm.Cond.fieldLink "ThawPoints$Thermometer" 34 "ThawPoints$Thermometer" "crept" "I") ∈ WT := wt_of (i := 161) (by decide +kernel) (by decide +kernel)
theorem wd_162 : (Jvm.Cond.fieldLink "ThawPoints$State" 88 "ThawPoints$Thermometer" "crept" "I") ∈ WT := wt_of (i := 162) (by decide +kernel) (by decide +kernel)
theorem wd_163 : (Jvm.Cond.fieldLink "ThawPoints" 215 "ThawPoints$Thermometer" "crept" "I") ∈ WT := wt_of (i := 163) (by decide +kernel) (by decide +kernel)
theorem wd_164 : (Jvm.Cond.fieldLink "ThawPoints$Thermometer" 9 "ThawPoints$Thermometer" "seal" "I") ∈ WT := wt_of (i := 164) (by decide +kernel) (by decide +kernel)
theorem wd_165 : (Jvm.Cond.fieldLink "ThawPoints" 140 "ThawPoints$Thermometer" "seal" "I") ∈ WT := wt_of (i := 165) (by decide +kernel) (by decide +kernel)
theorem wd_166 : (Jvm.Cond.fieldLink "ThawPoints$State" 85 "ThawPoints$Thermometer" "seal" "I") ∈ WT := wt_of (i := 166) (by decide +kernel) (by decide +kernel)
theorem wd_167 : (Jvm.Cond.fieldLink "ThawPoints$Thermometer" 37 "ThawPoints$Thermometer" "creptAtSeal" "I") ∈ WT := wt_of (i := 167) (by decide +kernel) (by decide +kernel)
theorem wd_168 : (Jvm.Cond.fieldLink "ThawPoints$State" 91 "ThawPoints$Thermometer" "creptAtSeal" "I") ∈ WT := wt_of (i := 168) (by decide +kernel) (by decide +kernel)
theorem wd_169 : (Jvm.Cond.fieldLink "ThawPoints$Thermometer" 18 "ThawPoints$Thermometer" "points" "LThawPoints$Points;") ∈ WT := wt_of (i := 169) (by decide +kernel) (by decide +kernel)
theorem wd_170 : (Jvm.Cond.fieldLink "ThawPoints" 73 "ThawPoints$Thermometer" "points" "LThawPoints$Points;") ∈ WT := wt_of (i := 170) (by decide +kernel) (by decide +kernel)
theorem wd_171 : (Jvm.Cond.fieldLink "ThawPoints$State" 94 "ThawPoints$Thermometer" "points" "LThawPoints$Points;") ∈ WT := wt_of (i := 171) (by decide +kernel) (by decide +kernel)
theorem wd_172 : (Jvm.Cond.lays "ThawPoints$Thermometer" "ThawPoints$Thermometer" "zero" "I") ∈ WT := wt_of (i := 172) (by decide +kernel) (by decide +kernel)
theorem wd_174 : (Jvm.Cond.lays "ThawPoints$Thermometer" "ThawPoints$Thermometer" "gain" "I") ∈ WT := wt_of (i := 174) (by decide +kernel) (by decide +kernel)
theorem wd_176 : (Jvm.Cond.lays "ThawPoints$Thermometer" "ThawPoints$Thermometer" "batch" "I") ∈ WT := wt_of (i := 176) (by decide +kernel) (by decide +kernel)
theorem wd_178 : (Jvm.Cond.lays "ThawPoints$Thermometer" "ThawPoints$Thermometer" "age" "I") ∈ WT := wt_of (i := 178) (by decide +kernel) (by decide +kernel)
theorem wd_180 : (Jvm.Cond.lays "ThawPoints$Thermometer" "ThawPoints$Thermometer" "crept" "I") ∈ WT := wt_of (i := 180) (by decide +kernel) (by decide +kernel)
theorem wd_182 : (Jvm.Cond.lays "ThawPoints$Thermometer" "ThawPoints$Thermometer" "seal" "I") ∈ WT := wt_of (i := 182) (by decide +kernel) (by decide +kernel)
theorem wd_184 : (Jvm.Cond.lays "ThawPoints$Thermometer" "ThawPoints$Thermometer" "creptAtSeal" "I") ∈ WT := wt_of (i := 184) (by decide +kernel) (by decide +kernel)
theorem wd_186 : (Jvm.Cond.laysFinal "ThawPoints$Thermometer" "ThawPoints$Thermometer" "points" "LThawPoints$Points;") ∈ WT := wt_of (i := 186) (by decide +kernel) (by decide +kernel)
theorem wd_189 : (Jvm.Cond.fieldLink "ThawPoints$State" 43 "ThawPoints$State" "year" "I") ∈ WT := wt_of (i := 189) (by decide +kernel) (by decide +kernel)
theorem wd_190 : (Jvm.Cond.fieldLink "ThawPoints" 100 "ThawPoints$State" "year" "I") ∈ WT := wt_of (i := 190) (by decide +kernel) (by decide +kernel)
theorem wd_191 : (Jvm.Cond.fieldLink "ThawPoints$State" 46 "ThawPoints$State" "seals" "I") ∈ WT := wt_of (i := 191) (by decide +kernel) (by decide +kernel)
theorem wd_192 : (Jvm.Cond.fieldLink "ThawPoints" 256 "ThawPoints$State" "seals" "I") ∈ WT := wt_of (i := 192) (by decide +kernel) (by decide +kernel)
theorem wd_193 : (Jvm.Cond.fieldLink "ThawPoints$State" 49 "ThawPoints$State" "size" "I") ∈ WT := wt_of (i := 193) (by decide +kernel) (by decide +kernel)
theorem wd_194 : (Jvm.Cond.fieldLink "ThawPoints" 61 "ThawPoints$State" "size" "I") ∈ WT := wt_of (i := 194) (by decide +kernel) (by decide +kernel)
theorem wd_195 : (Jvm.Cond.fieldLink "ThawPoints$State" 9 "ThawPoints$State" "stopPart" "I") ∈ WT := wt_of (i := 195) (by decide +kernel) (by decide +kernel)
theorem wd_196 : (Jvm.Cond.fieldLink "ThawPoints" 172 "ThawPoints$State" "stopPart" "I") ∈ WT := wt_of (i := 196) (by decide +kernel) (by decide +kernel)
theorem wd_197 : (Jvm.Cond.fieldLink "ThawPoints$State" 15 "ThawPoints$State" "stopReason" "I") ∈ WT := wt_of (i := 197) (by decide +kernel) (by decide +kernel)
theorem wd_198 : (Jvm.Cond.fieldLink "ThawPoints" 175 "ThawPoints$State" "stopReason" "I") ∈ WT := wt_of (i := 198) (by decide +kernel) (by decide +kernel)
theorem wd_199 : (Jvm.Cond.fieldLink "ThawPoints$State" 27 "ThawPoints$State" "baths" "[I") ∈ WT := wt_of (i := 199) (by decide +kernel) (by decide +kernel)
theorem wd_200 : (Jvm.Cond.fieldLink "ThawPoints" 91 "ThawPoints$State" "baths" "[I") ∈ WT := wt_of (i := 200) (by decide +kernel) (by decide +kernel)
theorem wd_201 : (Jvm.Cond.fieldLink "ThawPoints$State" 33 "ThawPoints$State" "settings" "[I") ∈ WT := wt_of (i := 201) (by decide +kernel) (by decide +kernel)
theorem wd_202 : (Jvm.Cond.fieldLink "ThawPoints" 113 "ThawPoints$State" "settings" "[I") ∈ WT := wt_of (i := 202) (by decide +kernel) (by decide +kernel)
theorem wd_203 : (Jvm.Cond.fieldLink "ThawPoints$State" 38 "ThawPoints$State" "rows" "[LThawPoints$Thermometer;") ∈ WT := wt_of (i := 203) (by decide +kernel) (by decide +kernel)
theorem wd_204 : (Jvm.Cond.fieldLink "ThawPoints" 69 "ThawPoints$State" "rows" "[LThawPoints$Thermometer;") ∈ WT := wt_of (i := 204) (by decide +kernel) (by decide +kernel)
theorem wd_205 : (Jvm.Cond.lays "ThawPoints$State" "ThawPoints$State" "year" "I") ∈ WT := wt_of (i := 205) (by decide +kernel) (by decide +kernel)
theorem wd_207 : (Jvm.Cond.lays "ThawPoints$State" "ThawPoints$State" "seals" "I") ∈ WT := wt_of (i := 207) (by decide +kernel) (by decide +kernel)
theorem wd_209 : (Jvm.Cond.lays "ThawPoints$State" "ThawPoints$State" "size" "I") ∈ WT := wt_of (i := 209) (by decide +kernel) (by decide +kernel)
theorem wd_211 : (Jvm.Cond.lays "ThawPoints$State" "ThawPoints$State" "stopPart" "I") ∈ WT := wt_of (i := 211) (by decide +kernel) (by decide +kernel)
theorem wd_213 : (Jvm.Cond.lays "ThawPoints$State" "ThawPoints$State" "stopReason" "I") ∈ WT := wt_of (i := 213) (by decide +kernel) (by decide +kernel)
theorem wd_215 : (Jvm.Cond.laysFinal "ThawPoints$State" "ThawPoints$State" "baths" "[I") ∈ WT := wt_of (i := 215) (by decide +kernel) (by decide +kernel)
theorem wd_217 : (Jvm.Cond.laysFinal "ThawPoints$State" "ThawPoints$State" "settings" "[I") ∈ WT := wt_of (i := 217) (by decide +kernel) (by decide +kernel)
theorem wd_219 : (Jvm.Cond.laysFinal "ThawPoints$State" "ThawPoints$State" "rows" "[LThawPoints$Thermometer;") ∈ WT := wt_of (i := 219) (by decide +kernel) (by decide +kernel)
theorem wd_222 : (Jvm.Cond.classLink "ThawPoints" 19 "ThawPoints$History") ∈ WT := wt_of (i := 222) (by decide +kernel) (by decide +kernel)
theorem wd_223 : (Jvm.Cond.instantiable "ThawPoints$History" 3) ∈ WT := wt_of (i := 223) (by decide +kernel) (by decide +kernel)
theorem wd_224 : (Jvm.Cond.methodLink "ThawPoints" 21 ⟨"ThawPoints$History", "<init>", "()V"⟩) ∈ WT := wt_of (i := 224) (by decide +kernel) (by decide +kernel)
theorem wd_225 : (Jvm.Cond.instanceMethod ⟨"ThawPoints$History", "<init>", "()V"⟩) ∈ WT := wt_of (i := 225) (by decide +kernel) (by decide +kernel)
theorem wd_226 : (Jvm.Cond.code ⟨"ThawPoints$History", "<init>", "()V"⟩ prog_2_method_1_code 2 none) ∈ WT := wt_of (i := 226) (by decide +kernel) (by decide +kernel)
theorem wd_227 : (Jvm.Cond.methodLink "ThawPoints$History" 3 ⟨"java/lang/Object", "<init>", "()V"⟩) ∈ WT := wt_of (i := 227) (by decide +kernel) (by decide +kernel)
theorem wd_228 : (Jvm.Cond.classLink "ThawPoints$History" 9 "ThawPoints$State") ∈ WT := wt_of (i := 228) (by decide +kernel) (by decide +kernel)
theorem wd_230 : (Jvm.Cond.methodLink "ThawPoints$History" 17 ⟨"ThawPoints$State", "<init>", "()V"⟩) ∈ WT := wt_of (i := 230) (by decide +kernel) (by decide +kernel)
theorem wd_231 : (Jvm.Cond.fieldLink "ThawPoints$History" 22 "ThawPoints$History" "size" "I") ∈ WT := wt_of (i := 231) (by decide +kernel) (by decide +kernel)
theorem wd_232 : (Jvm.Cond.fieldLink "ThawPoints" 180 "ThawPoints$History" "size" "I") ∈ WT := wt_of (i := 232) (by decide +kernel) (by decide +kernel)
theorem wd_233 : (Jvm.Cond.fieldLink "ThawPoints$History" 18 "ThawPoints$History" "oldest" "I") ∈ WT := wt_of (i := 233) (by decide +kernel) (by decide +kernel)
theorem wd_234 : (Jvm.Cond.fieldLink "ThawPoints$History" 11 "ThawPoints$History" "ring" "[LThawPoints$State;") ∈ WT := wt_of (i := 234) (by decide +kernel) (by decide +kernel)
theorem wd_235 : (Jvm.Cond.lays "ThawPoints$History" "ThawPoints$History" "size" "I") ∈ WT := wt_of (i := 235) (by decide +kernel) (by decide +kernel)
theorem wd_237 : (Jvm.Cond.lays "ThawPoints$History" "ThawPoints$History" "oldest" "I") ∈ WT := wt_of (i := 237) (by decide +kernel) (by decide +kernel)
theorem wd_239 : (Jvm.Cond.laysFinal "ThawPoints$History" "ThawPoints$History" "ring" "[LThawPoints$State;") ∈ WT := wt_of (i := 239) (by decide +kernel) (by decide +kernel)
theorem wd_242 : (Jvm.Cond.classLink "ThawPoints" 26 "ThawPoints$Works") ∈ WT := wt_of (i := 242) (by decide +kernel) (by decide +kernel)
theorem wd_243 : (Jvm.Cond.instantiable "ThawPoints$Works" 6) ∈ WT := wt_of (i := 243) (by decide +kernel) (by decide +kernel)
theorem wd_245 : (Jvm.Cond.instanceMethod ⟨"ThawPoints$Works", "<init>", "()V"⟩) ∈ WT := wt_of (i := 245) (by decide +kernel) (by decide +kernel)
theorem wd_246 : (Jvm.Cond.code ⟨"ThawPoints$Works", "<init>", "()V"⟩ prog_6_method_1_code 1 none) ∈ WT := wt_of (i := 246) (by decide +kernel) (by decide +kernel)
theorem wd_247 : (Jvm.Cond.methodLink "ThawPoints$Works" 3 ⟨"java/lang/Object", "<init>", "()V"⟩) ∈ WT := wt_of (i := 247) (by decide +kernel) (by decide +kernel)
theorem wd_248 : (Jvm.Cond.fieldLink "ThawPoints$Works" 19 "ThawPoints$Works" "length" "I") ∈ WT := wt_of (i := 248) (by decide +kernel) (by decide +kernel)
theorem wd_249 : (Jvm.Cond.fieldLink "ThawPoints" 145 "ThawPoints$Works" "length" "I") ∈ WT := wt_of (i := 249) (by decide +kernel) (by decide +kernel)
theorem wd_250 : (Jvm.Cond.fieldLink "ThawPoints$Works" 9 "ThawPoints$Works" "signs" "[C") ∈ WT := wt_of (i := 250) (by decide +kernel) (by decide +kernel)
theorem wd_251 : (Jvm.Cond.fieldLink "ThawPoints" 299 "ThawPoints$Works" "signs" "[C") ∈ WT := wt_of (i := 251) (by decide +kernel) (by decide +kernel)
theorem wd_252 : (Jvm.Cond.fieldLink "ThawPoints$Works" 23 "ThawPoints$Works" "at" "I") ∈ WT := wt_of (i := 252) (by decide +kernel) (by decide +kernel)
theorem wd_253 : (Jvm.Cond.fieldLink "ThawPoints" 156 "ThawPoints$Works" "at" "I") ∈ WT := wt_of (i := 253) (by decide +kernel) (by decide +kernel)
theorem wd_254 : (Jvm.Cond.fieldLink "ThawPoints$Works" 41 "ThawPoints$Works" "kind" "I") ∈ WT := wt_of (i := 254) (by decide +kernel) (by decide +kernel)
theorem wd_255 : (Jvm.Cond.fieldLink "ThawPoints" 315 "ThawPoints$Works" "kind" "I") ∈ WT := wt_of (i := 255) (by decide +kernel) (by decide +kernel)
theorem wd_256 : (Jvm.Cond.fieldLink "ThawPoints$Works" 15 "ThawPoints$Works" "numbers" "[I") ∈ WT := wt_of (i := 256) (by decide +kernel) (by decide +kernel)
theorem wd_257 : (Jvm.Cond.fieldLink "ThawPoints" 312 "ThawPoints$Works" "numbers" "[I") ∈ WT := wt_of (i := 257) (by decide +kernel) (by decide +kernel)
theorem wd_258 : (Jvm.Cond.fieldLink "ThawPoints$Works" 34 "ThawPoints$Works" "numbersRead" "I") ∈ WT := wt_of (i := 258) (by decide +kernel) (by decide +kernel)
theorem wd_259 : (Jvm.Cond.lays "ThawPoints$Works" "ThawPoints$Works" "length" "I") ∈ WT := wt_of (i := 259) (by decide +kernel) (by decide +kernel)
theorem wd_261 : (Jvm.Cond.laysFinal "ThawPoints$Works" "ThawPoints$Works" "signs" "[C") ∈ WT := wt_of (i := 261) (by decide +kernel) (by decide +kernel)
theorem wd_263 : (Jvm.Cond.lays "ThawPoints$Works" "ThawPoints$Works" "at" "I") ∈ WT := wt_of (i := 263) (by decide +kernel) (by decide +kernel)
theorem wd_265 : (Jvm.Cond.lays "ThawPoints$Works" "ThawPoints$Works" "kind" "I") ∈ WT := wt_of (i := 265) (by decide +kernel) (by decide +kernel)
theorem wd_267 : (Jvm.Cond.laysFinal "ThawPoints$Works" "ThawPoints$Works" "numbers" "[I") ∈ WT := wt_of (i := 267) (by decide +kernel) (by decide +kernel)
theorem wd_269 : (Jvm.Cond.lays "ThawPoints$Works" "ThawPoints$Works" "numbersRead" "I") ∈ WT := wt_of (i := 269) (by decide +kernel) (by decide +kernel)
theorem wd_272 : (Jvm.Cond.arrayClass Jvm.ClassFile.FieldType.char) ∈ WT := wt_of (i := 272) (by decide +kernel) (by decide +kernel)
theorem wd_273 : (Jvm.Cond.fieldLink "ThawPoints" 10 "ThawPoints" "state" "LThawPoints$State;") ∈ WT := wt_of (i := 273) (by decide +kernel) (by decide +kernel)
theorem wd_274 : (Jvm.Cond.fieldLink "ThawPoints" 16 "ThawPoints" "snapshot" "LThawPoints$State;") ∈ WT := wt_of (i := 274) (by decide +kernel) (by decide +kernel)
theorem wd_275 : (Jvm.Cond.fieldLink "ThawPoints" 22 "ThawPoints" "history" "LThawPoints$History;") ∈ WT := wt_of (i := 275) (by decide +kernel) (by decide +kernel)
theorem wd_276 : (Jvm.Cond.fieldLink "ThawPoints" 29 "ThawPoints" "works" "LThawPoints$Works;") ∈ WT := wt_of (i := 276) (by decide +kernel) (by decide +kernel)
theorem wd_277 : (Jvm.Cond.fieldLink "ThawPoints" 189 "ThawPoints" "snapshotTaken" "Z") ∈ WT := wt_of (i := 277) (by decide +kernel) (by decide +kernel)
theorem wd_278 : (Jvm.Cond.laysFinal "ThawPoints" "ThawPoints" "state" "LThawPoints$State;") ∈ WT := wt_of (i := 278) (by decide +kernel) (by decide +kernel)
theorem wd_280 : (Jvm.Cond.laysFinal "ThawPoints" "ThawPoints" "snapshot" "LThawPoints$State;") ∈ WT := wt_of (i := 280) (by decide +kernel) (by decide +kernel)
theorem wd_282 : (Jvm.Cond.laysFinal "ThawPoints" "ThawPoints" "history" "LThawPoints$History;") ∈ WT := wt_of (i := 282) (by decide +kernel) (by decide +kernel)
theorem wd_284 : (Jvm.Cond.laysFinal "ThawPoints" "ThawPoints" "works" "LThawPoints$Works;") ∈ WT := wt_of (i := 284) (by decide +kernel) (by decide +kernel)
theorem wd_286 : (Jvm.Cond.lays "ThawPoints" "ThawPoints" "snapshotTaken" "Z") ∈ WT := wt_of (i := 286) (by decide +kernel) (by decide +kernel)
theorem wd_289 : (Jvm.Cond.methodLink "ThawPointsLaw" 124 ⟨"ThawPoints", "clearBuffer", "()I"⟩) ∈ WT := wt_of (i := 289) (by decide +kernel) (by decide +kernel)
theorem wd_290 : (Jvm.Cond.instanceMethod ⟨"ThawPoints", "clearBuffer", "()I"⟩) ∈ WT := wt_of (i := 290) (by decide +kernel) (by decide +kernel)
theorem wd_291 : (Jvm.Cond.selects "ThawPoints" ⟨"ThawPoints", "clearBuffer", "()I"⟩ ⟨"ThawPoints", "clearBuffer", "()I"⟩) ∈ WT := wt_of (i := 291) (by decide +kernel) (by decide +kernel)
theorem wd_292 : (Jvm.Cond.code ⟨"ThawPoints", "clearBuffer", "()I"⟩ prog_1_method_11_code 2 (some .int)) ∈ WT := wt_of (i := 292) (by decide +kernel) (by decide +kernel)
theorem wd_293 : (Jvm.Cond.methodLink "ThawPointsLaw" 128 ⟨"ThawPoints", "firstError", "()I"⟩) ∈ WT := wt_of (i := 293) (by decide +kernel) (by decide +kernel)
theorem wd_294 : (Jvm.Cond.instanceMethod ⟨"ThawPoints", "firstError", "()I"⟩) ∈ WT := wt_of (i := 294) (by decide +kernel) (by decide +kernel)
theorem wd_295 : (Jvm.Cond.selects "ThawPoints" ⟨"ThawPoints", "firstError", "()I"⟩ ⟨"ThawPoints", "firstError", "()I"⟩) ∈ WT := wt_of (i := 295) (by decide +kernel) (by decide +kernel)
theorem wd_296 : (Jvm.Cond.code ⟨"ThawPoints", "firstError", "()I"⟩ prog_1_method_12_code 1 (some .int)) ∈ WT := wt_of (i := 296) (by decide +kernel) (by decide +kernel)
theorem wd_297 : (Jvm.Cond.methodLink "ThawPoints" 153 ⟨"ThawPoints$Works", "readWorks", "()Z"⟩) ∈ WT := wt_of (i := 297) (by decide +kernel) (by decide +kernel)
theorem wd_298 : (Jvm.Cond.instanceMethod ⟨"ThawPoints$Works", "readWorks", "()Z"⟩) ∈ WT := wt_of (i := 298) (by decide +kernel) (by decide +kernel)
theorem wd_299 : (Jvm.Cond.selects "ThawPoints$Works" ⟨"ThawPoints$Works", "readWorks", "()Z"⟩ ⟨"ThawPoints$Works", "readWorks", "()Z"⟩) ∈ WT := wt_of (i := 299) (by decide +kernel) (by decide +kernel)
theorem wd_300 : (Jvm.Cond.code ⟨"ThawPoints$Works", "readWorks", "()Z"⟩ prog_6_method_3_code 2 (some .boolean)) ∈ WT := wt_of (i := 300) (by decide +kernel) (by decide +kernel)
theorem wd_301 : (Jvm.Cond.methodLink "ThawPoints$Works" 26 ⟨"ThawPoints$Works", "readPart", "()Z"⟩) ∈ WT := wt_of (i := 301) (by decide +kernel) (by decide +kernel)
theorem wd_302 : (Jvm.Cond.instanceMethod ⟨"ThawPoints$Works", "readPart", "()Z"⟩) ∈ WT := wt_of (i := 302) (by decide +kernel) (by decide +kernel)
theorem wd_303 : (Jvm.Cond.selects "ThawPoints$Works" ⟨"ThawPoints$Works", "readPart", "()Z"⟩ ⟨"ThawPoints$Works", "readPart", "()Z"⟩) ∈ WT := wt_of (i := 303) (by decide +kernel) (by decide +kernel)
theorem wd_304 : (Jvm.Cond.code ⟨"ThawPoints$Works", "readPart", "()Z"⟩ prog_6_method_4_code 1 (some .boolean)) ∈ WT := wt_of (i := 304) (by decide +kernel) (by decide +kernel)
theorem wd_305 : (Jvm.Cond.methodLink "ThawPoints$Works" 37 ⟨"ThawPoints$Works", "nextSign", "()I"⟩) ∈ WT := wt_of (i := 305) (by decide +kernel) (by decide +kernel)
theorem wd_307 : (Jvm.Cond.instanceMethod ⟨"ThawPoints$Works", "nextSign", "()I"⟩) ∈ WT := wt_of (i := 307) (by decide +kernel) (by decide +kernel)
theorem wd_308 : (Jvm.Cond.code ⟨"ThawPoints$Works", "nextSign", "()I"⟩ prog_6_method_6_code 1 (some .int)) ∈ WT := wt_of (i := 308) (by decide +kernel) (by decide +kernel)
theorem wd_309 : (Jvm.Cond.methodLink "ThawPoints$Works" 30 ⟨"ThawPoints$Works", "readSign", "(C)Z"⟩) ∈ WT := wt_of (i := 309) (by decide +kernel) (by decide +kernel)
theorem wd_310 : (Jvm.Cond.instanceMethod ⟨"ThawPoints$Works", "readSign", "(C)Z"⟩) ∈ WT := wt_of (i := 310) (by decide +kernel) (by decide +kernel)
theorem wd_311 : (Jvm.Cond.selects "ThawPoints$Works" ⟨"ThawPoints$Works", "readSign", "(C)Z"⟩ ⟨"ThawPoints$Works", "readSign", "(C)Z"⟩) ∈ WT := wt_of (i := 311) (by decide +kernel) (by decide +kernel)
theorem wd_312 : (Jvm.Cond.code ⟨"ThawPoints$Works", "readSign", "(C)Z"⟩ prog_6_method_5_code 2 (some .boolean)) ∈ WT := wt_of (i := 312) (by decide +kernel) (by decide +kernel)
theorem wd_313 : (Jvm.Cond.methodLink "ThawPoints$Works" 44 ⟨"ThawPoints$Works", "readNumber", "(II)Z"⟩) ∈ WT := wt_of (i := 313) (by decide +kernel) (by decide +kernel)
theorem wd_315 : (Jvm.Cond.instanceMethod ⟨"ThawPoints$Works", "readNumber", "(II)Z"⟩) ∈ WT := wt_of (i := 315) (by decide +kernel) (by decide +kernel)
theorem wd_316 : (Jvm.Cond.code ⟨"ThawPoints$Works", "readNumber", "(II)Z"⟩ prog_6_method_8_code 7 (some .boolean)) ∈ WT := wt_of (i := 316) (by decide +kernel) (by decide +kernel)
theorem wd_317 : (Jvm.Cond.methodLink "ThawPoints$Works" 48 ⟨"java/lang/Math", "max", "(II)I"⟩) ∈ WT := wt_of (i := 317) (by decide +kernel) (by decide +kernel)
theorem wd_318 : (Jvm.Cond.static ⟨"java/lang/Math", "max", "(II)I"⟩) ∈ WT := wt_of (i := 318) (by decide +kernel) (by decide +kernel)
theorem wd_319 : (Jvm.Cond.code ⟨"java/lang/Math", "max", "(II)I"⟩ prog_14_method_65_code 2 (some .int)) ∈ WT := wt_of (i := 319) (by decide +kernel) (by decide +kernel)
theorem wd_320 : (Jvm.Cond.methodLink "ThawPoints$Works" 54 ⟨"ThawPoints$Works", "nextDigit", "()I"⟩) ∈ WT := wt_of (i := 320) (by decide +kernel) (by decide +kernel)
theorem wd_322 : (Jvm.Cond.instanceMethod ⟨"ThawPoints$Works", "nextDigit", "()I"⟩) ∈ WT := wt_of (i := 322) (by decide +kernel) (by decide +kernel)
theorem wd_323 : (Jvm.Cond.code ⟨"ThawPoints$Works", "nextDigit", "()I"⟩ prog_6_method_7_code 2 (some .int)) ∈ WT := wt_of (i := 323) (by decide +kernel) (by decide +kernel)
theorem wd_324 : (Jvm.Cond.methodLink "ThawPoints$Works" 57 ⟨"ThawPoints$Works", "keepNumber", "(I)V"⟩) ∈ WT := wt_of (i := 324) (by decide +kernel) (by decide +kernel)
theorem wd_326 : (Jvm.Cond.instanceMethod ⟨"ThawPoints$Works", "keepNumber", "(I)V"⟩) ∈ WT := wt_of (i := 326) (by decide +kernel) (by decide +kernel)
theorem wd_327 : (Jvm.Cond.code ⟨"ThawPoints$Works", "keepNumber", "(I)V"⟩ prog_6_method_9_code 2 none) ∈ WT := wt_of (i := 327) (by decide +kernel) (by decide +kernel)
theorem wd_328 : (Jvm.Cond.methodLink "ThawPointsLaw" 142 ⟨"ThawPoints", "keep", "()I"⟩) ∈ WT := wt_of (i := 328) (by decide +kernel) (by decide +kernel)
theorem wd_329 : (Jvm.Cond.instanceMethod ⟨"ThawPoints", "keep", "()I"⟩) ∈ WT := wt_of (i := 329) (by decide +kernel) (by decide +kernel)
theorem wd_330 : (Jvm.Cond.selects "ThawPoints" ⟨"ThawPoints", "keep", "()I"⟩ ⟨"ThawPoints", "keep", "()I"⟩) ∈ WT := wt_of (i := 330) (by decide +kernel) (by decide +kernel)
theorem wd_331 : (Jvm.Cond.code ⟨"ThawPoints", "keep", "()I"⟩ prog_1_method_16_code 1 (some .int)) ∈ WT := wt_of (i := 331) (by decide +kernel) (by decide +kernel)
theorem wd_332 : (Jvm.Cond.methodLink "ThawPoints" 186 ⟨"ThawPoints$State", "copyFrom", "(LThawPoints$State;)V"⟩) ∈ WT := wt_of (i := 332) (by decide +kernel) (by decide +kernel)
theorem wd_333 : (Jvm.Cond.instanceMethod ⟨"ThawPoints$State", "copyFrom", "(LThawPoints$State;)V"⟩) ∈ WT := wt_of (i := 333) (by decide +kernel) (by decide +kernel)
theorem wd_334 : (Jvm.Cond.selects "ThawPoints$State" ⟨"ThawPoints$State", "copyFrom", "(LThawPoints$State;)V"⟩ ⟨"ThawPoints$State", "copyFrom", "(LThawPoints$State;)V"⟩) ∈ WT := wt_of (i := 334) (by decide +kernel) (by decide +kernel)
theorem wd_335 : (Jvm.Cond.code ⟨"ThawPoints$State", "copyFrom", "(LThawPoints$State;)V"⟩ prog_4_method_2_code 3 none) ∈ WT := wt_of (i := 335) (by decide +kernel) (by decide +kernel)
theorem wd_336 : (Jvm.Cond.methodLink "ThawPoints$State" 52 ⟨"java/lang/System", "arraycopy", "(Ljava/lang/Object;ILjava/lang/Object;II)V"⟩) ∈ WT := wt_of (i := 336) (by decide +kernel) (by decide +kernel)
theorem wd_337 : (Jvm.Cond.static ⟨"java/lang/System", "arraycopy", "(Ljava/lang/Object;ILjava/lang/Object;II)V"⟩) ∈ WT := wt_of (i := 337) (by decide +kernel) (by decide +kernel)
theorem wd_338 : (Jvm.Cond.native ⟨"java/lang/System", "arraycopy", "(Ljava/lang/Object;ILjava/lang/Object;II)V"⟩) ∈ WT := wt_of (i := 338) (by decide +kernel) (by decide +kernel)
theorem wd_339 : (Jvm.Cond.methodLink "ThawPoints$State" 58 ⟨"ThawPoints$Thermometer", "copyFrom", "(LThawPoints$Thermometer;)V"⟩) ∈ WT := wt_of (i := 339) (by decide +kernel) (by decide +kernel)
theorem wd_340 : (Jvm.Cond.instanceMethod ⟨"ThawPoints$Thermometer", "copyFrom", "(LThawPoints$Thermometer;)V"⟩) ∈ WT := wt_of (i := 340) (by decide +kernel) (by decide +kernel)
theorem wd_341 : (Jvm.Cond.selects "ThawPoints$Thermometer" ⟨"ThawPoints$Thermometer", "copyFrom", "(LThawPoints$Thermometer;)V"⟩ ⟨"ThawPoints$Thermometer", "copyFrom", "(LThawPoints$Thermometer;)V"⟩) ∈ WT := wt_of (i := 341) (by decide +kernel) (by decide +kernel)
theorem wd_342 : (Jvm.Cond.code ⟨"ThawPoints$Thermometer", "copyFrom", "(LThawPoints$Thermometer;)V"⟩ prog_5_method_3_code 2 none) ∈ WT := wt_of (i := 342) (by decide +kernel) (by decide +kernel)
theorem wd_343 : (Jvm.Cond.methodLink "ThawPoints$Thermometer" 43 ⟨"ThawPoints$Points", "copyFrom", "(LThawPoints$Points;)V"⟩) ∈ WT := wt_of (i := 343) (by decide +kernel) (by decide +kernel)
theorem wd_344 : (Jvm.Cond.instanceMethod ⟨"ThawPoints$Points", "copyFrom", "(LThawPoints$Points;)V"⟩) ∈ WT := wt_of (i := 344) (by decide +kernel) (by decide +kernel)
theorem wd_345 : (Jvm.Cond.selects "ThawPoints$Points" ⟨"ThawPoints$Points", "copyFrom", "(LThawPoints$Points;)V"⟩ ⟨"ThawPoints$Points", "copyFrom", "(LThawPoints$Points;)V"⟩) ∈ WT := wt_of (i := 345) (by decide +kernel) (by decide +kernel)
theorem wd_346 : (Jvm.Cond.code ⟨"ThawPoints$Points", "copyFrom", "(LThawPoints$Points;)V"⟩ prog_3_method_2_code 2 none) ∈ WT := wt_of (i := 346) (by decide +kernel) (by decide +kernel)
theorem wd_347 : (Jvm.Cond.methodLink "ThawPoints$Points" 37 ⟨"java/lang/System", "arraycopy", "(Ljava/lang/Object;ILjava/lang/Object;II)V"⟩) ∈ WT := wt_of (i := 347) (by decide +kernel) (by decide +kernel)
theorem wd_348 : (Jvm.Cond.methodLink "ThawPointsLaw" 176 ⟨"ThawPoints", "validShare", "()D"⟩) ∈ WT := wt_of (i := 348) (by decide +kernel) (by decide +kernel)
theorem wd_349 : (Jvm.Cond.instanceMethod ⟨"ThawPoints", "validShare", "()D"⟩) ∈ WT := wt_of (i := 349) (by decide +kernel) (by decide +kernel)
theorem wd_350 : (Jvm.Cond.selects "ThawPoints" ⟨"ThawPoints", "validShare", "()D"⟩ ⟨"ThawPoints", "validShare", "()D"⟩) ∈ WT := wt_of (i := 350) (by decide +kernel) (by decide +kernel)
theorem wd_351 : (Jvm.Cond.code ⟨"ThawPoints", "validShare", "()D"⟩ prog_1_method_27_code 1 (some .double)) ∈ WT := wt_of (i := 351) (by decide +kernel) (by decide +kernel)
theorem wd_352 : (Jvm.Cond.methodLink "ThawPoints" 253 ⟨"ThawPoints$State", "validPapers", "()I"⟩) ∈ WT := wt_of (i := 352) (by decide +kernel) (by decide +kernel)
theorem wd_353 : (Jvm.Cond.instanceMethod ⟨"ThawPoints$State", "validPapers", "()I"⟩) ∈ WT := wt_of (i := 353) (by decide +kernel) (by decide +kernel)
theorem wd_354 : (Jvm.Cond.selects "ThawPoints$State" ⟨"ThawPoints$State", "validPapers", "()I"⟩ ⟨"ThawPoints$State", "validPapers", "()I"⟩) ∈ WT := wt_of (i := 354) (by decide +kernel) (by decide +kernel)
theorem wd_355 : (Jvm.Cond.code ⟨"ThawPoints$State", "validPapers", "()I"⟩ prog_4_method_16_code 3 (some .int)) ∈ WT := wt_of (i := 355) (by decide +kernel) (by decide +kernel)
theorem wd_356 : (Jvm.Cond.methodLink "ThawPoints$State" 109 ⟨"ThawPoints$State", "isValid", "(LThawPoints$Thermometer;)Z"⟩) ∈ WT := wt_of (i := 356) (by decide +kernel) (by decide +kernel)
theorem wd_357 : (Jvm.Cond.instanceMethod ⟨"ThawPoints$State", "isValid", "(LThawPoints$Thermometer;)Z"⟩) ∈ WT := wt_of (i := 357) (by decide +kernel) (by decide +kernel)
theorem wd_358 : (Jvm.Cond.selects "ThawPoints$State" ⟨"ThawPoints$State", "isValid", "(LThawPoints$Thermometer;)Z"⟩ ⟨"ThawPoints$State", "isValid", "(LThawPoints$Thermometer;)Z"⟩) ∈ WT := wt_of (i := 358) (by decide +kernel) (by decide +kernel)
theorem wd_359 : (Jvm.Cond.code ⟨"ThawPoints$State", "isValid", "(LThawPoints$Thermometer;)Z"⟩ prog_4_method_10_code 2 (some .boolean)) ∈ WT := wt_of (i := 359) (by decide +kernel) (by decide +kernel)
theorem wd_360 : (Jvm.Cond.methodLink "ThawPointsLaw" 181 ⟨"ThawPoints", "digest", "()J"⟩) ∈ WT := wt_of (i := 360) (by decide +kernel) (by decide +kernel)
theorem wd_361 : (Jvm.Cond.instanceMethod ⟨"ThawPoints", "digest", "()J"⟩) ∈ WT := wt_of (i := 361) (by decide +kernel) (by decide +kernel)
theorem wd_362 : (Jvm.Cond.selects "ThawPoints" ⟨"ThawPoints", "digest", "()J"⟩ ⟨"ThawPoints", "digest", "()J"⟩) ∈ WT := wt_of (i := 362) (by decide +kernel) (by decide +kernel)
theorem wd_363 : (Jvm.Cond.code ⟨"ThawPoints", "digest", "()J"⟩ prog_1_method_28_code 4 (some .long)) ∈ WT := wt_of (i := 363) (by decide +kernel) (by decide +kernel)
theorem wd_364 : (Jvm.Cond.constantLong "ThawPoints" 269 (3907 : Int64)) ∈ WT := wt_of (i := 364) (by decide +kernel) (by decide +kernel)
theorem wd_365 : (Jvm.Cond.methodLink "ThawPoints" 271 ⟨"ThawPoints", "count", "(I)I"⟩) ∈ WT := wt_of (i := 365) (by decide +kernel) (by decide +kernel)
theorem wd_366 : (Jvm.Cond.instanceMethod ⟨"ThawPoints", "count", "(I)I"⟩) ∈ WT := wt_of (i := 366) (by decide +kernel) (by decide +kernel)
theorem wd_367 : (Jvm.Cond.selects "ThawPoints" ⟨"ThawPoints", "count", "(I)I"⟩ ⟨"ThawPoints", "count", "(I)I"⟩) ∈ WT := wt_of (i := 367) (by decide +kernel) (by decide +kernel)
theorem wd_368 : (Jvm.Cond.code ⟨"ThawPoints", "count", "(I)I"⟩ prog_1_method_22_code 2 (some .int)) ∈ WT := wt_of (i := 368) (by decide +kernel) (by decide +kernel)
theorem wd_369 : (Jvm.Cond.methodLink "ThawPoints" 33 ⟨"ThawPoints", "isWithin", "(III)Z"⟩) ∈ WT := wt_of (i := 369) (by decide +kernel) (by decide +kernel)
theorem wd_370 : (Jvm.Cond.static ⟨"ThawPoints", "isWithin", "(III)Z"⟩) ∈ WT := wt_of (i := 370) (by decide +kernel) (by decide +kernel)
theorem wd_371 : (Jvm.Cond.code ⟨"ThawPoints", "isWithin", "(III)Z"⟩ prog_1_method_29_code 3 (some .boolean)) ∈ WT := wt_of (i := 371) (by decide +kernel) (by decide +kernel)
theorem wd_372 : (Jvm.Cond.classLink "ThawPoints" 37 "java/lang/IllegalArgumentException") ∈ WT := wt_of (i := 372) (by decide +kernel) (by decide +kernel)
theorem wd_373 : (Jvm.Cond.instantiable "java/lang/IllegalArgumentException" 6) ∈ WT := wt_of (i := 373) (by decide +kernel) (by decide +kernel)
theorem wd_381 : (Jvm.Cond.selects "java/lang/IllegalArgumentException" ⟨"java/lang/Throwable", "fillInStackTrace", "(I)Ljava/lang/Throwable;"⟩ ⟨"java/lang/Throwable", "fillInStackTrace", "(I)Ljava/lang/Throwable;"⟩) ∈ WT := wt_of (i := 381) (by decide +kernel) (by decide +kernel)
theorem wd_382 : (Jvm.Cond.selects "java/lang/IllegalArgumentException" ⟨"java/lang/Throwable", "fillInStackTrace", "()Ljava/lang/Throwable;"⟩ ⟨"java/lang/Throwable", "fillInStackTrace", "()Ljava/lang/Throwable;"⟩) ∈ WT := wt_of (i := 382) (by decide +kernel) (by decide +kernel)
theorem wd_383 : (Jvm.Cond.lays "java/lang/IllegalArgumentException" "java/lang/Throwable" "cause" "Ljava/lang/Throwable;") ∈ WT := wt_of (i := 383) (by decide +kernel) (by decide +kernel)
theorem wd_384 : (Jvm.Cond.lays "java/lang/Throwable" "java/lang/Throwable" "cause" "Ljava/lang/Throwable;") ∈ WT := wt_of (i := 384) (by decide +kernel) (by decide +kernel)
theorem wd_385 : (Jvm.Cond.lays "java/lang/IllegalArgumentException" "java/lang/Throwable" "stackTrace" "[Ljava/lang/StackTraceElement;") ∈ WT := wt_of (i := 385) (by decide +kernel) (by decide +kernel)
theorem wd_386 : (Jvm.Cond.lays "java/lang/Throwable" "java/lang/Throwable" "stackTrace" "[Ljava/lang/StackTraceElement;") ∈ WT := wt_of (i := 386) (by decide +kernel) (by decide +kernel)
theorem wd_387 : (Jvm.Cond.lays "java/lang/IllegalArgumentException" "java/lang/Throwable" "suppressedExceptions" "Ljava/util/List;") ∈ WT := wt_of (i := 387) (by decide +kernel) (by decide +kernel)
theorem wd_388 : (Jvm.Cond.lays "java/lang/Throwable" "java/lang/Throwable" "suppressedExceptions" "Ljava/util/List;") ∈ WT := wt_of (i := 388) (by decide +kernel) (by decide +kernel)
theorem wd_389 : (Jvm.Cond.lays "java/lang/IllegalArgumentException" "java/lang/Throwable" "detailMessage" "Ljava/lang/String;") ∈ WT := wt_of (i := 389) (by decide +kernel) (by decide +kernel)
theorem wd_390 : (Jvm.Cond.lays "java/lang/Throwable" "java/lang/Throwable" "detailMessage" "Ljava/lang/String;") ∈ WT := wt_of (i := 390) (by decide +kernel) (by decide +kernel)
theorem wd_391 : (Jvm.Cond.lays "java/lang/IllegalArgumentException" "java/lang/Throwable" "backtrace" "Ljava/lang/Object;") ∈ WT := wt_of (i := 391) (by decide +kernel) (by decide +kernel)
theorem wd_392 : (Jvm.Cond.lays "java/lang/Throwable" "java/lang/Throwable" "backtrace" "Ljava/lang/Object;") ∈ WT := wt_of (i := 392) (by decide +kernel) (by decide +kernel)
theorem wd_393 : (Jvm.Cond.fieldLink "java/lang/Throwable" 198 "java/lang/Throwable" "backtrace" "Ljava/lang/Object;") ∈ WT := wt_of (i := 393) (by decide +kernel) (by decide +kernel)
theorem wd_395 : (Jvm.Cond.instanceMethod ⟨"java/lang/Throwable", "<init>", "()V"⟩) ∈ WT := wt_of (i := 395) (by decide +kernel) (by decide +kernel)
theorem wd_396 : (Jvm.Cond.code ⟨"java/lang/Throwable", "<init>", "()V"⟩ prog_18_method_1_code 1 none) ∈ WT := wt_of (i := 396) (by decide +kernel) (by decide +kernel)
theorem wd_397 : (Jvm.Cond.methodLink "java/lang/Throwable" 1 ⟨"java/lang/Object", "<init>", "()V"⟩) ∈ WT := wt_of (i := 397) (by decide +kernel) (by decide +kernel)
theorem wd_398 : (Jvm.Cond.fieldLink "java/lang/Throwable" 13 "java/lang/Throwable" "UNASSIGNED_STACK" "[Ljava/lang/StackTraceElement;") ∈ WT := wt_of (i := 398) (by decide +kernel) (by decide +kernel)
theorem wd_400 : (Jvm.Cond.fieldLink "java/lang/Throwable" 20 "java/lang/Throwable" "SUPPRESSED_SENTINEL" "Ljava/util/List;") ∈ WT := wt_of (i := 400) (by decide +kernel) (by decide +kernel)
theorem wd_402 : (Jvm.Cond.methodLink "java/lang/Throwable" 27 ⟨"java/lang/Throwable", "fillInStackTrace", "()Ljava/lang/Throwable;"⟩) ∈ WT := wt_of (i := 402) (by decide +kernel) (by decide +kernel)
theorem wd_403 : (Jvm.Cond.instanceMethod ⟨"java/lang/Throwable", "fillInStackTrace", "()Ljava/lang/Throwable;"⟩) ∈ WT := wt_of (i := 403) (by decide +kernel) (by decide +kernel)
theorem wd_405 : (Jvm.Cond.selects "java/lang/IllegalStateException" ⟨"java/lang/Throwable", "fillInStackTrace", "()Ljava/lang/Throwable;"⟩ ⟨"java/lang/Throwable", "fillInStackTrace", "()Ljava/lang/Throwable;"⟩) ∈ WT := wt_of (i := 405) (by decide +kernel) (by decide +kernel)
theorem wd_406 : (Jvm.Cond.selects "java/lang/IndexOutOfBoundsException" ⟨"java/lang/Throwable", "fillInStackTrace", "()Ljava/lang/Throwable;"⟩ ⟨"java/lang/Throwable", "fillInStackTrace", "()Ljava/lang/Throwable;"⟩) ∈ WT := wt_of (i := 406) (by decide +kernel) (by decide +kernel)
theorem wd_408 : (Jvm.Cond.methodLink "java/lang/Throwable" 202 ⟨"java/lang/Throwable", "fillInStackTrace", "(I)Ljava/lang/Throwable;"⟩) ∈ WT := wt_of (i := 408) (by decide +kernel) (by decide +kernel)
theorem wd_410 : (Jvm.Cond.instanceMethod ⟨"java/lang/Throwable", "fillInStackTrace", "(I)Ljava/lang/Throwable;"⟩) ∈ WT := wt_of (i := 410) (by decide +kernel) (by decide +kernel)
theorem wd_411 : (Jvm.Cond.instantiable "java/lang/Throwable" 6) ∈ WT := wt_of (i := 411) (by decide +kernel) (by decide +kernel)
theorem wd_412 : (Jvm.Cond.native ⟨"java/lang/Throwable", "fillInStackTrace", "(I)Ljava/lang/Throwable;"⟩) ∈ WT := wt_of (i := 412) (by decide +kernel) (by decide +kernel)
theorem wd_414 : (Jvm.Cond.methodLink "ThawPoints" 41 ⟨"java/lang/IllegalArgumentException", "<init>", "(Ljava/lang/String;)V"⟩) ∈ WT := wt_of (i := 414) (by decide +kernel) (by decide +kernel)
theorem wd_415 : (Jvm.Cond.instanceMethod ⟨"java/lang/IllegalArgumentException", "<init>", "(Ljava/lang/String;)V"⟩) ∈ WT := wt_of (i := 415) (by decide +kernel) (by decide +kernel)
theorem wd_416 : (Jvm.Cond.code ⟨"java/lang/IllegalArgumentException", "<init>", "(Ljava/lang/String;)V"⟩ prog_11_method_2_code 2 none) ∈ WT := wt_of (i := 416) (by decide +kernel) (by decide +kernel)
theorem wd_417 : (Jvm.Cond.methodLink "java/lang/IllegalArgumentException" 7 ⟨"java/lang/RuntimeException", "<init>", "(Ljava/lang/String;)V"⟩) ∈ WT := wt_of (i := 417) (by decide +kernel) (by decide +kernel)
theorem wd_418 : (Jvm.Cond.instanceMethod ⟨"java/lang/RuntimeException", "<init>", "(Ljava/lang/String;)V"⟩) ∈ WT := wt_of (i := 418) (by decide +kernel) (by decide +kernel)
theorem wd_419 : (Jvm.Cond.code ⟨"java/lang/RuntimeException", "<init>", "(Ljava/lang/String;)V"⟩ prog_15_method_2_code 2 none) ∈ WT := wt_of (i := 419) (by decide +kernel) (by decide +kernel)
theorem wd_420 : (Jvm.Cond.methodLink "java/lang/RuntimeException" 7 ⟨"java/lang/Exception", "<init>", "(Ljava/lang/String;)V"⟩) ∈ WT := wt_of (i := 420) (by decide +kernel) (by decide +kernel)
theorem wd_421 : (Jvm.Cond.instanceMethod ⟨"java/lang/Exception", "<init>", "(Ljava/lang/String;)V"⟩) ∈ WT := wt_of (i := 421) (by decide +kernel) (by decide +kernel)
theorem wd_422 : (Jvm.Cond.code ⟨"java/lang/Exception", "<init>", "(Ljava/lang/String;)V"⟩ prog_10_method_2_code 2 none) ∈ WT := wt_of (i := 422) (by decide +kernel) (by decide +kernel)
theorem wd_423 : (Jvm.Cond.methodLink "java/lang/Exception" 7 ⟨"java/lang/Throwable", "<init>", "(Ljava/lang/String;)V"⟩) ∈ WT := wt_of (i := 423) (by decide +kernel) (by decide +kernel)
theorem wd_424 : (Jvm.Cond.instanceMethod ⟨"java/lang/Throwable", "<init>", "(Ljava/lang/String;)V"⟩) ∈ WT := wt_of (i := 424) (by decide +kernel) (by decide +kernel)
theorem wd_425 : (Jvm.Cond.code ⟨"java/lang/Throwable", "<init>", "(Ljava/lang/String;)V"⟩ prog_18_method_2_code 2 none) ∈ WT := wt_of (i := 425) (by decide +kernel) (by decide +kernel)
theorem wd_427 : (Jvm.Cond.fieldLink "java/lang/Throwable" 31 "java/lang/Throwable" "detailMessage" "Ljava/lang/String;") ∈ WT := wt_of (i := 427) (by decide +kernel) (by decide +kernel)
theorem wd_428 : (Jvm.Cond.fieldLink "java/lang/Throwable" 7 "java/lang/Throwable" "cause" "Ljava/lang/Throwable;") ∈ WT := wt_of (i := 428) (by decide +kernel) (by decide +kernel)
theorem wd_429 : (Jvm.Cond.fieldLink "java/lang/Throwable" 17 "java/lang/Throwable" "stackTrace" "[Ljava/lang/StackTraceElement;") ∈ WT := wt_of (i := 429) (by decide +kernel) (by decide +kernel)
theorem wd_430 : (Jvm.Cond.fieldLink "java/lang/Throwable" 24 "java/lang/Throwable" "suppressedExceptions" "Ljava/util/List;") ∈ WT := wt_of (i := 430) (by decide +kernel) (by decide +kernel)
theorem wd_435 : (Jvm.Cond.lays "java/lang/IllegalArgumentException" "java/lang/Throwable" "depth" "I") ∈ WT := wt_of (i := 435) (by decide +kernel) (by decide +kernel)
theorem wd_439 : (Jvm.Cond.arrayClass Jvm.ClassFile.FieldType.byte) ∈ WT := wt_of (i := 439) (by decide +kernel) (by decide +kernel)
theorem wd_440 : (Jvm.Cond.methodLink "ThawPoints" 250 ⟨"ThawPoints$State", "allPoints", "()I"⟩) ∈ WT := wt_of (i := 440) (by decide +kernel) (by decide +kernel)
theorem wd_441 : (Jvm.Cond.instanceMethod ⟨"ThawPoints$State", "allPoints", "()I"⟩) ∈ WT := wt_of (i := 441) (by decide +kernel) (by decide +kernel)
theorem wd_442 : (Jvm.Cond.selects "ThawPoints$State" ⟨"ThawPoints$State", "allPoints", "()I"⟩ ⟨"ThawPoints$State", "allPoints", "()I"⟩) ∈ WT := wt_of (i := 442) (by decide +kernel) (by decide +kernel)
theorem wd_443 : (Jvm.Cond.code ⟨"ThawPoints$State", "allPoints", "()I"⟩ prog_4_method_15_code 3 (some .int)) ∈ WT := wt_of (i := 443) (by decide +kernel) (by decide +kernel)
theorem wd_444 : (Jvm.Cond.methodLink "ThawPoints" 259 ⟨"ThawPoints$State", "allCrept", "()I"⟩) ∈ WT := wt_of (i := 444) (by decide +kernel) (by decide +kernel)
theorem wd_445 : (Jvm.Cond.instanceMethod ⟨"ThawPoints$State", "allCrept", "()I"⟩) ∈ WT := wt_of (i := 445) (by decide +kernel) (by decide +kernel)
theorem wd_446 : (Jvm.Cond.selects "ThawPoints$State" ⟨"ThawPoints$State", "allCrept", "()I"⟩ ⟨"ThawPoints$State", "allCrept", "()I"⟩) ∈ WT := wt_of (i := 446) (by decide +kernel) (by decide +kernel)
theorem wd_447 : (Jvm.Cond.code ⟨"ThawPoints$State", "allCrept", "()I"⟩ prog_4_method_17_code 3 (some .int)) ∈ WT := wt_of (i := 447) (by decide +kernel) (by decide +kernel)
theorem wd_448 : (Jvm.Cond.methodLink "ThawPoints" 274 ⟨"ThawPoints", "mixed", "(JJ)J"⟩) ∈ WT := wt_of (i := 448) (by decide +kernel) (by decide +kernel)
theorem wd_449 : (Jvm.Cond.static ⟨"ThawPoints", "mixed", "(JJ)J"⟩) ∈ WT := wt_of (i := 449) (by decide +kernel) (by decide +kernel)
theorem wd_450 : (Jvm.Cond.code ⟨"ThawPoints", "mixed", "(JJ)J"⟩ prog_1_method_37_code 4 (some .long)) ∈ WT := wt_of (i := 450) (by decide +kernel) (by decide +kernel)
theorem wd_451 : (Jvm.Cond.constantLong "ThawPoints" 332 (31 : Int64)) ∈ WT := wt_of (i := 451) (by decide +kernel) (by decide +kernel)
theorem wd_452 : (Jvm.Cond.methodLink "ThawPoints" 278 ⟨"ThawPoints", "mixedNumbers", "(JI)J"⟩) ∈ WT := wt_of (i := 452) (by decide +kernel) (by decide +kernel)
theorem wd_454 : (Jvm.Cond.instanceMethod ⟨"ThawPoints", "mixedNumbers", "(JI)J"⟩) ∈ WT := wt_of (i := 454) (by decide +kernel) (by decide +kernel)
theorem wd_455 : (Jvm.Cond.code ⟨"ThawPoints", "mixedNumbers", "(JI)J"⟩ prog_1_method_38_code 9 (some .long)) ∈ WT := wt_of (i := 455) (by decide +kernel) (by decide +kernel)
theorem wd_456 : (Jvm.Cond.methodLink "ThawPoints" 334 ⟨"ThawPoints", "thermometer", "(II)I"⟩) ∈ WT := wt_of (i := 456) (by decide +kernel) (by decide +kernel)
theorem wd_457 : (Jvm.Cond.instanceMethod ⟨"ThawPoints", "thermometer", "(II)I"⟩) ∈ WT := wt_of (i := 457) (by decide +kernel) (by decide +kernel)
theorem wd_458 : (Jvm.Cond.selects "ThawPoints" ⟨"ThawPoints", "thermometer", "(II)I"⟩ ⟨"ThawPoints", "thermometer", "(II)I"⟩) ∈ WT := wt_of (i := 458) (by decide +kernel) (by decide +kernel)
theorem wd_459 : (Jvm.Cond.code ⟨"ThawPoints", "thermometer", "(II)I"⟩ prog_1_method_20_code 4 (some .int)) ∈ WT := wt_of (i := 459) (by decide +kernel) (by decide +kernel)
theorem wd_460 : (Jvm.Cond.methodLink "ThawPoints" 65 ⟨"ThawPoints", "needThermometer", "(I)V"⟩) ∈ WT := wt_of (i := 460) (by decide +kernel) (by decide +kernel)
theorem wd_462 : (Jvm.Cond.instanceMethod ⟨"ThawPoints", "needThermometer", "(I)V"⟩) ∈ WT := wt_of (i := 462) (by decide +kernel) (by decide +kernel)
theorem wd_463 : (Jvm.Cond.code ⟨"ThawPoints", "needThermometer", "(I)V"⟩ prog_1_method_30_code 2 none) ∈ WT := wt_of (i := 463) (by decide +kernel) (by decide +kernel)
theorem wd_464 : (Jvm.Cond.methodLink "ThawPoints" 303 ⟨"ThawPoints$State", "has", "(I)Z"⟩) ∈ WT := wt_of (i := 464) (by decide +kernel) (by decide +kernel)
theorem wd_465 : (Jvm.Cond.instanceMethod ⟨"ThawPoints$State", "has", "(I)Z"⟩) ∈ WT := wt_of (i := 465) (by decide +kernel) (by decide +kernel)
theorem wd_466 : (Jvm.Cond.selects "ThawPoints$State" ⟨"ThawPoints$State", "has", "(I)Z"⟩ ⟨"ThawPoints$State", "has", "(I)Z"⟩) ∈ WT := wt_of (i := 466) (by decide +kernel) (by decide +kernel)
theorem wd_467 : (Jvm.Cond.code ⟨"ThawPoints$State", "has", "(I)Z"⟩ prog_4_method_3_code 2 (some .boolean)) ∈ WT := wt_of (i := 467) (by decide +kernel) (by decide +kernel)
theorem wd_468 : (Jvm.Cond.classLink "ThawPoints" 103 "java/lang/IndexOutOfBoundsException") ∈ WT := wt_of (i := 468) (by decide +kernel) (by decide +kernel)
theorem wd_469 : (Jvm.Cond.instantiable "java/lang/IndexOutOfBoundsException" 6) ∈ WT := wt_of (i := 469) (by decide +kernel) (by decide +kernel)
theorem wd_471 : (Jvm.Cond.selects "java/lang/IndexOutOfBoundsException" ⟨"java/lang/Throwable", "fillInStackTrace", "(I)Ljava/lang/Throwable;"⟩ ⟨"java/lang/Throwable", "fillInStackTrace", "(I)Ljava/lang/Throwable;"⟩) ∈ WT := wt_of (i := 471) (by decide +kernel) (by decide +kernel)
theorem wd_472 : (Jvm.Cond.lays "java/lang/IndexOutOfBoundsException" "java/lang/Throwable" "cause" "Ljava/lang/Throwable;") ∈ WT := wt_of (i := 472) (by decide +kernel) (by decide +kernel)
theorem wd_473 : (Jvm.Cond.lays "java/lang/IndexOutOfBoundsException" "java/lang/Throwable" "stackTrace" "[Ljava/lang/StackTraceElement;") ∈ WT := wt_of (i := 473) (by decide +kernel) (by decide +kernel)
theorem wd_474 : (Jvm.Cond.lays "java/lang/IndexOutOfBoundsException" "java/lang/Throwable" "suppressedExceptions" "Ljava/util/List;") ∈ WT := wt_of (i := 474) (by decide +kernel) (by decide +kernel)
theorem wd_475 : (Jvm.Cond.lays "java/lang/IndexOutOfBoundsException" "java/lang/Throwable" "detailMessage" "Ljava/lang/String;") ∈ WT := wt_of (i := 475) (by decide +kernel) (by decide +kernel)
theorem wd_476 : (Jvm.Cond.lays "java/lang/IndexOutOfBoundsException" "java/lang/Throwable" "backtrace" "Ljava/lang/Object;") ∈ WT := wt_of (i := 476) (by decide +kernel) (by decide +kernel)
theorem wd_478 : (Jvm.Cond.methodLink "ThawPoints" 107 ⟨"java/lang/IndexOutOfBoundsException", "<init>", "(Ljava/lang/String;)V"⟩) ∈ WT := wt_of (i := 478) (by decide +kernel) (by decide +kernel)
theorem wd_479 : (Jvm.Cond.instanceMethod ⟨"java/lang/IndexOutOfBoundsException", "<init>", "(Ljava/lang/String;)V"⟩) ∈ WT := wt_of (i := 479) (by decide +kernel) (by decide +kernel)
theorem wd_480 : (Jvm.Cond.code ⟨"java/lang/IndexOutOfBoundsException", "<init>", "(Ljava/lang/String;)V"⟩ prog_13_method_2_code 2 none) ∈ WT := wt_of (i := 480) (by decide +kernel) (by decide +kernel)
theorem wd_481 : (Jvm.Cond.methodLink "java/lang/IndexOutOfBoundsException" 7 ⟨"java/lang/RuntimeException", "<init>", "(Ljava/lang/String;)V"⟩) ∈ WT := wt_of (i := 481) (by decide +kernel) (by decide +kernel)
theorem wd_482 : (Jvm.Cond.lays "java/lang/IndexOutOfBoundsException" "java/lang/Throwable" "depth" "I") ∈ WT := wt_of (i := 482) (by decide +kernel) (by decide +kernel)
theorem wd_484 : (Jvm.Cond.methodLink "ThawPoints" 218 ⟨"ThawPoints$Points", "treeDepth", "()I"⟩) ∈ WT := wt_of (i := 484) (by decide +kernel) (by decide +kernel)
theorem wd_485 : (Jvm.Cond.instanceMethod ⟨"ThawPoints$Points", "treeDepth", "()I"⟩) ∈ WT := wt_of (i := 485) (by decide +kernel) (by decide +kernel)
theorem wd_486 : (Jvm.Cond.selects "ThawPoints$Points" ⟨"ThawPoints$Points", "treeDepth", "()I"⟩ ⟨"ThawPoints$Points", "treeDepth", "()I"⟩) ∈ WT := wt_of (i := 486) (by decide +kernel) (by decide +kernel)
theorem wd_487 : (Jvm.Cond.code ⟨"ThawPoints$Points", "treeDepth", "()I"⟩ prog_3_method_9_code 3 (some .int)) ∈ WT := wt_of (i := 487) (by decide +kernel) (by decide +kernel)
theorem wd_488 : (Jvm.Cond.methodLink "ThawPoints$Points" 58 ⟨"java/lang/Math", "max", "(II)I"⟩) ∈ WT := wt_of (i := 488) (by decide +kernel) (by decide +kernel)
theorem wd_489 : (Jvm.Cond.methodLink "ThawPoints" 221 ⟨"ThawPoints$State", "isValid", "(LThawPoints$Thermometer;)Z"⟩) ∈ WT := wt_of (i := 489) (by decide +kernel) (by decide +kernel)
theorem wd_490 : (Jvm.Cond.methodLink "ThawPoints" 130 ⟨"ThawPoints$State", "reasonForNoPaper", "(LThawPoints$Thermometer;)I"⟩) ∈ WT := wt_of (i := 490) (by decide +kernel) (by decide +kernel)
theorem wd_491 : (Jvm.Cond.instanceMethod ⟨"ThawPoints$State", "reasonForNoPaper", "(LThawPoints$Thermometer;)I"⟩) ∈ WT := wt_of (i := 491) (by decide +kernel) (by decide +kernel)
theorem wd_492 : (Jvm.Cond.selects "ThawPoints$State" ⟨"ThawPoints$State", "reasonForNoPaper", "(LThawPoints$Thermometer;)I"⟩ ⟨"ThawPoints$State", "reasonForNoPaper", "(LThawPoints$Thermometer;)I"⟩) ∈ WT := wt_of (i := 492) (by decide +kernel) (by decide +kernel)
theorem wd_493 : (Jvm.Cond.code ⟨"ThawPoints$State", "reasonForNoPaper", "(LThawPoints$Thermometer;)I"⟩ prog_4_method_11_code 6 (some .int)) ∈ WT := wt_of (i := 493) (by decide +kernel) (by decide +kernel)
theorem wd_494 : (Jvm.Cond.methodLink "ThawPoints$State" 98 ⟨"ThawPoints$Points", "indexOf", "(I)I"⟩) ∈ WT := wt_of (i := 494) (by decide +kernel) (by decide +kernel)
theorem wd_495 : (Jvm.Cond.instanceMethod ⟨"ThawPoints$Points", "indexOf", "(I)I"⟩) ∈ WT := wt_of (i := 495) (by decide +kernel) (by decide +kernel)
theorem wd_496 : (Jvm.Cond.selects "ThawPoints$Points" ⟨"ThawPoints$Points", "indexOf", "(I)I"⟩ ⟨"ThawPoints$Points", "indexOf", "(I)I"⟩) ∈ WT := wt_of (i := 496) (by decide +kernel) (by decide +kernel)
theorem wd_497 : (Jvm.Cond.code ⟨"ThawPoints$Points", "indexOf", "(I)I"⟩ prog_3_method_3_code 3 (some .int)) ∈ WT := wt_of (i := 497) (by decide +kernel) (by decide +kernel)
theorem wd_498 : (Jvm.Cond.methodLink "ThawPoints$State" 106 ⟨"ThawPoints$State", "isOld", "(I)Z"⟩) ∈ WT := wt_of (i := 498) (by decide +kernel) (by decide +kernel)
theorem wd_500 : (Jvm.Cond.instanceMethod ⟨"ThawPoints$State", "isOld", "(I)Z"⟩) ∈ WT := wt_of (i := 500) (by decide +kernel) (by decide +kernel)
theorem wd_501 : (Jvm.Cond.code ⟨"ThawPoints$State", "isOld", "(I)Z"⟩ prog_4_method_12_code 2 (some .boolean)) ∈ WT := wt_of (i := 501) (by decide +kernel) (by decide +kernel)
theorem wd_502 : (Jvm.Cond.methodLink "ThawPoints$State" 113 ⟨"ThawPoints$Thermometer", "overlapWith", "(LThawPoints$Thermometer;I)I"⟩) ∈ WT := wt_of (i := 502) (by decide +kernel) (by decide +kernel)
theorem wd_503 : (Jvm.Cond.instanceMethod ⟨"ThawPoints$Thermometer", "overlapWith", "(LThawPoints$Thermometer;I)I"⟩) ∈ WT := wt_of (i := 503) (by decide +kernel) (by decide +kernel)
theorem wd_504 : (Jvm.Cond.selects "ThawPoints$Thermometer" ⟨"ThawPoints$Thermometer", "overlapWith", "(LThawPoints$Thermometer;I)I"⟩ ⟨"ThawPoints$Thermometer", "overlapWith", "(LThawPoints$Thermometer;I)I"⟩) ∈ WT := wt_of (i := 504) (by decide +kernel) (by decide +kernel)
theorem wd_505 : (Jvm.Cond.code ⟨"ThawPoints$Thermometer", "overlapWith", "(LThawPoints$Thermometer;I)I"⟩ prog_5_method_9_code 5 (some .int)) ∈ WT := wt_of (i := 505) (by decide +kernel) (by decide +kernel)
theorem wd_506 : (Jvm.Cond.methodLink "ThawPoints$Thermometer" 60 ⟨"ThawPoints$Thermometer", "readingAt", "(I)I"⟩) ∈ WT := wt_of (i := 506) (by decide +kernel) (by decide +kernel)
theorem wd_507 : (Jvm.Cond.instanceMethod ⟨"ThawPoints$Thermometer", "readingAt", "(I)I"⟩) ∈ WT := wt_of (i := 507) (by decide +kernel) (by decide +kernel)
theorem wd_508 : (Jvm.Cond.selects "ThawPoints$Thermometer" ⟨"ThawPoints$Thermometer", "readingAt", "(I)I"⟩ ⟨"ThawPoints$Thermometer", "readingAt", "(I)I"⟩) ∈ WT := wt_of (i := 508) (by decide +kernel) (by decide +kernel)
theorem wd_509 : (Jvm.Cond.code ⟨"ThawPoints$Thermometer", "readingAt", "(I)I"⟩ prog_5_method_4_code 2 (some .int)) ∈ WT := wt_of (i := 509) (by decide +kernel) (by decide +kernel)
theorem wd_510 : (Jvm.Cond.methodLink "ThawPoints$Thermometer" 47 ⟨"java/lang/Math", "floorDiv", "(II)I"⟩) ∈ WT := wt_of (i := 510) (by decide +kernel) (by decide +kernel)
theorem wd_511 : (Jvm.Cond.static ⟨"java/lang/Math", "floorDiv", "(II)I"⟩) ∈ WT := wt_of (i := 511) (by decide +kernel) (by decide +kernel)
theorem wd_512 : (Jvm.Cond.code ⟨"java/lang/Math", "floorDiv", "(II)I"⟩ prog_14_method_47_code 3 (some .int)) ∈ WT := wt_of (i := 512) (by decide +kernel) (by decide +kernel)
theorem wd_513 : (Jvm.Cond.methodLink "ThawPoints$Thermometer" 75 ⟨"ThawPoints$Points", "correctByTree", "(I)I"⟩) ∈ WT := wt_of (i := 513) (by decide +kernel) (by decide +kernel)
theorem wd_514 : (Jvm.Cond.instanceMethod ⟨"ThawPoints$Points", "correctByTree", "(I)I"⟩) ∈ WT := wt_of (i := 514) (by decide +kernel) (by decide +kernel)
theorem wd_515 : (Jvm.Cond.selects "ThawPoints$Points" ⟨"ThawPoints$Points", "correctByTree", "(I)I"⟩ ⟨"ThawPoints$Points", "correctByTree", "(I)I"⟩) ∈ WT := wt_of (i := 515) (by decide +kernel) (by decide +kernel)
theorem wd_516 : (Jvm.Cond.code ⟨"ThawPoints$Points", "correctByTree", "(I)I"⟩ prog_3_method_11_code 4 (some .int)) ∈ WT := wt_of (i := 516) (by decide +kernel) (by decide +kernel)
theorem wd_517 : (Jvm.Cond.methodLink "ThawPoints$Points" 64 ⟨"ThawPoints$Points", "lastUpTo", "(I)I"⟩) ∈ WT := wt_of (i := 517) (by decide +kernel) (by decide +kernel)
theorem wd_519 : (Jvm.Cond.instanceMethod ⟨"ThawPoints$Points", "lastUpTo", "(I)I"⟩) ∈ WT := wt_of (i := 519) (by decide +kernel) (by decide +kernel)
theorem wd_520 : (Jvm.Cond.code ⟨"ThawPoints$Points", "lastUpTo", "(I)I"⟩ prog_3_method_12_code 5 (some .int)) ∈ WT := wt_of (i := 520) (by decide +kernel) (by decide +kernel)
theorem wd_521 : (Jvm.Cond.methodLink "ThawPoints$Points" 67 ⟨"ThawPoints$Points", "firstAbove", "(I)I"⟩) ∈ WT := wt_of (i := 521) (by decide +kernel) (by decide +kernel)
theorem wd_523 : (Jvm.Cond.instanceMethod ⟨"ThawPoints$Points", "firstAbove", "(I)I"⟩) ∈ WT := wt_of (i := 523) (by decide +kernel) (by decide +kernel)
theorem wd_524 : (Jvm.Cond.code ⟨"ThawPoints$Points", "firstAbove", "(I)I"⟩ prog_3_method_13_code 5 (some .int)) ∈ WT := wt_of (i := 524) (by decide +kernel) (by decide +kernel)
theorem wd_525 : (Jvm.Cond.methodLink "ThawPoints$Points" 70 ⟨"ThawPoints$Points", "onLine", "(III)I"⟩) ∈ WT := wt_of (i := 525) (by decide +kernel) (by decide +kernel)
theorem wd_527 : (Jvm.Cond.instanceMethod ⟨"ThawPoints$Points", "onLine", "(III)I"⟩) ∈ WT := wt_of (i := 527) (by decide +kernel) (by decide +kernel)
theorem wd_528 : (Jvm.Cond.code ⟨"ThawPoints$Points", "onLine", "(III)I"⟩ prog_3_method_15_code 6 (some .int)) ∈ WT := wt_of (i := 528) (by decide +kernel) (by decide +kernel)
theorem wd_529 : (Jvm.Cond.methodLink "ThawPoints$Points" 74 ⟨"java/lang/Math", "floorDiv", "(II)I"⟩) ∈ WT := wt_of (i := 529) (by decide +kernel) (by decide +kernel)
theorem wd_530 : (Jvm.Cond.methodLink "ThawPoints$Thermometer" 78 ⟨"java/lang/Math", "abs", "(I)I"⟩) ∈ WT := wt_of (i := 530) (by decide +kernel) (by decide +kernel)
theorem wd_531 : (Jvm.Cond.static ⟨"java/lang/Math", "abs", "(I)I"⟩) ∈ WT := wt_of (i := 531) (by decide +kernel) (by decide +kernel)
theorem wd_532 : (Jvm.Cond.code ⟨"java/lang/Math", "abs", "(I)I"⟩ prog_14_method_59_code 1 (some .int)) ∈ WT := wt_of (i := 532) (by decide +kernel) (by decide +kernel)
theorem wd_533 : (Jvm.Cond.methodLink "ThawPoints" 225 ⟨"ThawPoints$Points", "widestGap", "()I"⟩) ∈ WT := wt_of (i := 533) (by decide +kernel) (by decide +kernel)
theorem wd_534 : (Jvm.Cond.instanceMethod ⟨"ThawPoints$Points", "widestGap", "()I"⟩) ∈ WT := wt_of (i := 534) (by decide +kernel) (by decide +kernel)
theorem wd_535 : (Jvm.Cond.selects "ThawPoints$Points" ⟨"ThawPoints$Points", "widestGap", "()I"⟩ ⟨"ThawPoints$Points", "widestGap", "()I"⟩) ∈ WT := wt_of (i := 535) (by decide +kernel) (by decide +kernel)
theorem wd_536 : (Jvm.Cond.code ⟨"ThawPoints$Points", "widestGap", "()I"⟩ prog_3_method_10_code 3 (some .int)) ∈ WT := wt_of (i := 536) (by decide +kernel) (by decide +kernel)
theorem wd_538 : (Jvm.Cond.methodLink "ThawPoints" 337 ⟨"ThawPoints", "point", "(III)I"⟩) ∈ WT := wt_of (i := 538) (by decide +kernel) (by decide +kernel)
theorem wd_539 : (Jvm.Cond.instanceMethod ⟨"ThawPoints", "point", "(III)I"⟩) ∈ WT := wt_of (i := 539) (by decide +kernel) (by decide +kernel)
theorem wd_540 : (Jvm.Cond.selects "ThawPoints" ⟨"ThawPoints", "point", "(III)I"⟩ ⟨"ThawPoints", "point", "(III)I"⟩) ∈ WT := wt_of (i := 540) (by decide +kernel) (by decide +kernel)
theorem wd_541 : (Jvm.Cond.code ⟨"ThawPoints", "point", "(III)I"⟩ prog_1_method_21_code 6 (some .int)) ∈ WT := wt_of (i := 541) (by decide +kernel) (by decide +kernel)
theorem wd_544 : (Jvm.Cond.methodLink "ThawPoints" 282 ⟨"ThawPoints", "mixedReadings", "(JI)J"⟩) ∈ WT := wt_of (i := 544) (by decide +kernel) (by decide +kernel)
theorem wd_546 : (Jvm.Cond.instanceMethod ⟨"ThawPoints", "mixedReadings", "(JI)J"⟩) ∈ WT := wt_of (i := 546) (by decide +kernel) (by decide +kernel)
theorem wd_547 : (Jvm.Cond.code ⟨"ThawPoints", "mixedReadings", "(JI)J"⟩ prog_1_method_39_code 10 (some .long)) ∈ WT := wt_of (i := 547) (by decide +kernel) (by decide +kernel)
theorem wd_548 : (Jvm.Cond.methodLink "ThawPoints" 340 ⟨"ThawPoints", "reads", "(II)I"⟩) ∈ WT := wt_of (i := 548) (by decide +kernel) (by decide +kernel)
theorem wd_549 : (Jvm.Cond.instanceMethod ⟨"ThawPoints", "reads", "(II)I"⟩) ∈ WT := wt_of (i := 549) (by decide +kernel) (by decide +kernel)
theorem wd_550 : (Jvm.Cond.selects "ThawPoints" ⟨"ThawPoints", "reads", "(II)I"⟩ ⟨"ThawPoints", "reads", "(II)I"⟩) ∈ WT := wt_of (i := 550) (by decide +kernel) (by decide +kernel)
theorem wd_551 : (Jvm.Cond.code ⟨"ThawPoints", "reads", "(II)I"⟩ prog_1_method_18_code 3 (some .int)) ∈ WT := wt_of (i := 551) (by decide +kernel) (by decide +kernel)
theorem wd_552 : (Jvm.Cond.methodLink "ThawPoints" 88 ⟨"ThawPoints", "needDegree", "(I)V"⟩) ∈ WT := wt_of (i := 552) (by decide +kernel) (by decide +kernel)
theorem wd_553 : (Jvm.Cond.static ⟨"ThawPoints", "needDegree", "(I)V"⟩) ∈ WT := wt_of (i := 553) (by decide +kernel) (by decide +kernel)
theorem wd_554 : (Jvm.Cond.code ⟨"ThawPoints", "needDegree", "(I)V"⟩ prog_1_method_32_code 1 none) ∈ WT := wt_of (i := 554) (by decide +kernel) (by decide +kernel)
theorem wd_556 : (Jvm.Cond.methodLink "ThawPoints" 195 ⟨"ThawPoints$Thermometer", "readingAt", "(I)I"⟩) ∈ WT := wt_of (i := 556) (by decide +kernel) (by decide +kernel)
theorem wd_557 : (Jvm.Cond.fieldLink "ThawPoints" 343 "ThawPoints" "HASHED_READINGS" "[I") ∈ WT := wt_of (i := 557) (by decide +kernel) (by decide +kernel)
theorem wd_559 : (Jvm.Cond.methodLink "ThawPoints" 346 ⟨"ThawPoints", "corrected", "(III)I"⟩) ∈ WT := wt_of (i := 559) (by decide +kernel) (by decide +kernel)
theorem wd_560 : (Jvm.Cond.instanceMethod ⟨"ThawPoints", "corrected", "(III)I"⟩) ∈ WT := wt_of (i := 560) (by decide +kernel) (by decide +kernel)
theorem wd_561 : (Jvm.Cond.selects "ThawPoints" ⟨"ThawPoints", "corrected", "(III)I"⟩ ⟨"ThawPoints", "corrected", "(III)I"⟩) ∈ WT := wt_of (i := 561) (by decide +kernel) (by decide +kernel)
theorem wd_562 : (Jvm.Cond.code ⟨"ThawPoints", "corrected", "(III)I"⟩ prog_1_method_19_code 5 (some .int)) ∈ WT := wt_of (i := 562) (by decide +kernel) (by decide +kernel)
theorem wd_565 : (Jvm.Cond.methodLink "ThawPoints" 202 ⟨"ThawPoints$Points", "correctByTree", "(I)I"⟩) ∈ WT := wt_of (i := 565) (by decide +kernel) (by decide +kernel)
theorem wd_566 : (Jvm.Cond.methodLink "ThawPoints" 205 ⟨"ThawPoints$Points", "correctByOrder", "(I)I"⟩) ∈ WT := wt_of (i := 566) (by decide +kernel) (by decide +kernel)
theorem wd_567 : (Jvm.Cond.instanceMethod ⟨"ThawPoints$Points", "correctByOrder", "(I)I"⟩) ∈ WT := wt_of (i := 567) (by decide +kernel) (by decide +kernel)
theorem wd_568 : (Jvm.Cond.selects "ThawPoints$Points" ⟨"ThawPoints$Points", "correctByOrder", "(I)I"⟩ ⟨"ThawPoints$Points", "correctByOrder", "(I)I"⟩) ∈ WT := wt_of (i := 568) (by decide +kernel) (by decide +kernel)
theorem wd_569 : (Jvm.Cond.code ⟨"ThawPoints$Points", "correctByOrder", "(I)I"⟩ prog_3_method_14_code 3 (some .int)) ∈ WT := wt_of (i := 569) (by decide +kernel) (by decide +kernel)
theorem wd_570 : (Jvm.Cond.constant "ThawPoints" 208 (10000000 : Int32)) ∈ WT := wt_of (i := 570) (by decide +kernel) (by decide +kernel)
theorem wd_571 : (Jvm.Cond.methodLink "ThawPoints" 285 ⟨"ThawPoints", "mixedOutlook", "(JI)J"⟩) ∈ WT := wt_of (i := 571) (by decide +kernel) (by decide +kernel)
theorem wd_573 : (Jvm.Cond.instanceMethod ⟨"ThawPoints", "mixedOutlook", "(JI)J"⟩) ∈ WT := wt_of (i := 573) (by decide +kernel) (by decide +kernel)
theorem wd_574 : (Jvm.Cond.code ⟨"ThawPoints", "mixedOutlook", "(JI)J"⟩ prog_1_method_40_code 7 (some .long)) ∈ WT := wt_of (i := 574) (by decide +kernel) (by decide +kernel)
theorem wd_575 : (Jvm.Cond.methodLink "ThawPoints" 349 ⟨"ThawPoints", "whyNot", "(II)I"⟩) ∈ WT := wt_of (i := 575) (by decide +kernel) (by decide +kernel)
theorem wd_576 : (Jvm.Cond.instanceMethod ⟨"ThawPoints", "whyNot", "(II)I"⟩) ∈ WT := wt_of (i := 576) (by decide +kernel) (by decide +kernel)
theorem wd_577 : (Jvm.Cond.selects "ThawPoints" ⟨"ThawPoints", "whyNot", "(II)I"⟩ ⟨"ThawPoints", "whyNot", "(II)I"⟩) ∈ WT := wt_of (i := 577) (by decide +kernel) (by decide +kernel)
theorem wd_578 : (Jvm.Cond.code ⟨"ThawPoints", "whyNot", "(II)I"⟩ prog_1_method_23_code 3 (some .int)) ∈ WT := wt_of (i := 578) (by decide +kernel) (by decide +kernel)
theorem wd_579 : (Jvm.Cond.methodLink "ThawPoints" 85 ⟨"ThawPoints", "needBath", "(I)V"⟩) ∈ WT := wt_of (i := 579) (by decide +kernel) (by decide +kernel)
theorem wd_580 : (Jvm.Cond.static ⟨"ThawPoints", "needBath", "(I)V"⟩) ∈ WT := wt_of (i := 580) (by decide +kernel) (by decide +kernel)
theorem wd_581 : (Jvm.Cond.code ⟨"ThawPoints", "needBath", "(I)V"⟩ prog_1_method_31_code 1 none) ∈ WT := wt_of (i := 581) (by decide +kernel) (by decide +kernel)
theorem wd_583 : (Jvm.Cond.methodLink "ThawPoints" 116 ⟨"ThawPoints$Thermometer", "reasonNotToMeasure", "(I)I"⟩) ∈ WT := wt_of (i := 583) (by decide +kernel) (by decide +kernel)
theorem wd_584 : (Jvm.Cond.instanceMethod ⟨"ThawPoints$Thermometer", "reasonNotToMeasure", "(I)I"⟩) ∈ WT := wt_of (i := 584) (by decide +kernel) (by decide +kernel)
theorem wd_585 : (Jvm.Cond.selects "ThawPoints$Thermometer" ⟨"ThawPoints$Thermometer", "reasonNotToMeasure", "(I)I"⟩ ⟨"ThawPoints$Thermometer", "reasonNotToMeasure", "(I)I"⟩) ∈ WT := wt_of (i := 585) (by decide +kernel) (by decide +kernel)
theorem wd_586 : (Jvm.Cond.code ⟨"ThawPoints$Thermometer", "reasonNotToMeasure", "(I)I"⟩ prog_5_method_7_code 2 (some .int)) ∈ WT := wt_of (i := 586) (by decide +kernel) (by decide +kernel)
theorem wd_587 : (Jvm.Cond.methodLink "ThawPoints$Thermometer" 56 ⟨"ThawPoints$Points", "indexOf", "(I)I"⟩) ∈ WT := wt_of (i := 587) (by decide +kernel) (by decide +kernel)
theorem wd_588 : (Jvm.Cond.methodLink "ThawPoints$Thermometer" 63 ⟨"ThawPoints$Points", "crosses", "(II)Z"⟩) ∈ WT := wt_of (i := 588) (by decide +kernel) (by decide +kernel)
theorem wd_589 : (Jvm.Cond.instanceMethod ⟨"ThawPoints$Points", "crosses", "(II)Z"⟩) ∈ WT := wt_of (i := 589) (by decide +kernel) (by decide +kernel)
theorem wd_590 : (Jvm.Cond.selects "ThawPoints$Points" ⟨"ThawPoints$Points", "crosses", "(II)Z"⟩ ⟨"ThawPoints$Points", "crosses", "(II)Z"⟩) ∈ WT := wt_of (i := 590) (by decide +kernel) (by decide +kernel)
theorem wd_591 : (Jvm.Cond.code ⟨"ThawPoints$Points", "crosses", "(II)Z"⟩ prog_3_method_4_code 4 (some .boolean)) ∈ WT := wt_of (i := 591) (by decide +kernel) (by decide +kernel)
theorem wd_592 : (Jvm.Cond.methodLink "ThawPoints" 352 ⟨"ThawPoints", "overlap", "(III)I"⟩) ∈ WT := wt_of (i := 592) (by decide +kernel) (by decide +kernel)
theorem wd_593 : (Jvm.Cond.instanceMethod ⟨"ThawPoints", "overlap", "(III)I"⟩) ∈ WT := wt_of (i := 593) (by decide +kernel) (by decide +kernel)
theorem wd_594 : (Jvm.Cond.selects "ThawPoints" ⟨"ThawPoints", "overlap", "(III)I"⟩ ⟨"ThawPoints", "overlap", "(III)I"⟩) ∈ WT := wt_of (i := 594) (by decide +kernel) (by decide +kernel)
theorem wd_595 : (Jvm.Cond.code ⟨"ThawPoints", "overlap", "(III)I"⟩ prog_1_method_24_code 4 (some .int)) ∈ WT := wt_of (i := 595) (by decide +kernel) (by decide +kernel)
theorem wd_596 : (Jvm.Cond.methodLink "ThawPoints" 262 ⟨"ThawPoints$Thermometer", "overlapWith", "(LThawPoints$Thermometer;I)I"⟩) ∈ WT := wt_of (i := 596) (by decide +kernel) (by decide +kernel)
theorem wd_597 : (Jvm.Cond.methodLink "ThawPoints" 355 ⟨"ThawPoints", "worstDegree", "(II)I"⟩) ∈ WT := wt_of (i := 597) (by decide +kernel) (by decide +kernel)
theorem wd_598 : (Jvm.Cond.instanceMethod ⟨"ThawPoints", "worstDegree", "(II)I"⟩) ∈ WT := wt_of (i := 598) (by decide +kernel) (by decide +kernel)
theorem wd_599 : (Jvm.Cond.selects "ThawPoints" ⟨"ThawPoints", "worstDegree", "(II)I"⟩ ⟨"ThawPoints", "worstDegree", "(II)I"⟩) ∈ WT := wt_of (i := 599) (by decide +kernel) (by decide +kernel)
theorem wd_600 : (Jvm.Cond.code ⟨"ThawPoints", "worstDegree", "(II)I"⟩ prog_1_method_25_code 7 (some .int)) ∈ WT := wt_of (i := 600) (by decide +kernel) (by decide +kernel)
theorem wd_601 : (Jvm.Cond.methodLink "ThawPoints" 358 ⟨"ThawPoints", "voidIn", "(I)I"⟩) ∈ WT := wt_of (i := 601) (by decide +kernel) (by decide +kernel)
theorem wd_602 : (Jvm.Cond.instanceMethod ⟨"ThawPoints", "voidIn", "(I)I"⟩) ∈ WT := wt_of (i := 602) (by decide +kernel) (by decide +kernel)
theorem wd_603 : (Jvm.Cond.selects "ThawPoints" ⟨"ThawPoints", "voidIn", "(I)I"⟩ ⟨"ThawPoints", "voidIn", "(I)I"⟩) ∈ WT := wt_of (i := 603) (by decide +kernel) (by decide +kernel)
theorem wd_604 : (Jvm.Cond.code ⟨"ThawPoints", "voidIn", "(I)I"⟩ prog_1_method_26_code 2 (some .int)) ∈ WT := wt_of (i := 604) (by decide +kernel) (by decide +kernel)
theorem wd_605 : (Jvm.Cond.methodLink "ThawPoints" 266 ⟨"ThawPoints$State", "yearsUntilVoid", "(LThawPoints$Thermometer;)I"⟩) ∈ WT := wt_of (i := 605) (by decide +kernel) (by decide +kernel)
theorem wd_606 : (Jvm.Cond.instanceMethod ⟨"ThawPoints$State", "yearsUntilVoid", "(LThawPoints$Thermometer;)I"⟩) ∈ WT := wt_of (i := 606) (by decide +kernel) (by decide +kernel)
theorem wd_607 : (Jvm.Cond.selects "ThawPoints$State" ⟨"ThawPoints$State", "yearsUntilVoid", "(LThawPoints$Thermometer;)I"⟩ ⟨"ThawPoints$State", "yearsUntilVoid", "(LThawPoints$Thermometer;)I"⟩) ∈ WT := wt_of (i := 607) (by decide +kernel) (by decide +kernel)
theorem wd_608 : (Jvm.Cond.code ⟨"ThawPoints$State", "yearsUntilVoid", "(LThawPoints$Thermometer;)I"⟩ prog_4_method_14_code 4 (some .int)) ∈ WT := wt_of (i := 608) (by decide +kernel) (by decide +kernel)
theorem wd_609 : (Jvm.Cond.methodLink "ThawPoints$State" 74 ⟨"ThawPoints$State", "creepOf", "(LThawPoints$Thermometer;)I"⟩) ∈ WT := wt_of (i := 609) (by decide +kernel) (by decide +kernel)
theorem wd_611 : (Jvm.Cond.instanceMethod ⟨"ThawPoints$State", "creepOf", "(LThawPoints$Thermometer;)I"⟩) ∈ WT := wt_of (i := 611) (by decide +kernel) (by decide +kernel)
theorem wd_612 : (Jvm.Cond.code ⟨"ThawPoints$State", "creepOf", "(LThawPoints$Thermometer;)I"⟩ prog_4_method_9_code 2 (some .int)) ∈ WT := wt_of (i := 612) (by decide +kernel) (by decide +kernel)
theorem wd_613 : (Jvm.Cond.methodLink "ThawPoints$State" 120 ⟨"ThawPoints$Thermometer", "creepOfYear", "(II)I"⟩) ∈ WT := wt_of (i := 613) (by decide +kernel) (by decide +kernel)
theorem wd_614 : (Jvm.Cond.static ⟨"ThawPoints$Thermometer", "creepOfYear", "(II)I"⟩) ∈ WT := wt_of (i := 614) (by decide +kernel) (by decide +kernel)
theorem wd_615 : (Jvm.Cond.code ⟨"ThawPoints$Thermometer", "creepOfYear", "(II)I"⟩ prog_5_method_6_code 3 (some .int)) ∈ WT := wt_of (i := 615) (by decide +kernel) (by decide +kernel)
theorem wd_616 : (Jvm.Cond.methodLink "ThawPoints" 288 ⟨"ThawPoints", "stopped", "(I)I"⟩) ∈ WT := wt_of (i := 616) (by decide +kernel) (by decide +kernel)
theorem wd_617 : (Jvm.Cond.instanceMethod ⟨"ThawPoints", "stopped", "(I)I"⟩) ∈ WT := wt_of (i := 617) (by decide +kernel) (by decide +kernel)
theorem wd_618 : (Jvm.Cond.selects "ThawPoints" ⟨"ThawPoints", "stopped", "(I)I"⟩ ⟨"ThawPoints", "stopped", "(I)I"⟩) ∈ WT := wt_of (i := 618) (by decide +kernel) (by decide +kernel)
theorem wd_619 : (Jvm.Cond.code ⟨"ThawPoints", "stopped", "(I)I"⟩ prog_1_method_14_code 2 (some .int)) ∈ WT := wt_of (i := 619) (by decide +kernel) (by decide +kernel)
theorem wd_621 : (Jvm.Cond.methodLink "ThawPoints" 291 ⟨"ThawPoints", "validShare", "()D"⟩) ∈ WT := wt_of (i := 621) (by decide +kernel) (by decide +kernel)
theorem wd_622 : (Jvm.Cond.methodLink "ThawPoints" 295 ⟨"ThawPoints", "bitsOf", "(D)J"⟩) ∈ WT := wt_of (i := 622) (by decide +kernel) (by decide +kernel)
theorem wd_623 : (Jvm.Cond.static ⟨"ThawPoints", "bitsOf", "(D)J"⟩) ∈ WT := wt_of (i := 623) (by decide +kernel) (by decide +kernel)
theorem wd_624 : (Jvm.Cond.code ⟨"ThawPoints", "bitsOf", "(D)J"⟩ prog_1_method_41_code 8 (some .long)) ∈ WT := wt_of (i := 624) (by decide +kernel) (by decide +kernel)
theorem wd_625 : (Jvm.Cond.constantLong "ThawPoints" 361 (1023 : Int64)) ∈ WT := wt_of (i := 625) (by decide +kernel) (by decide +kernel)
theorem wd_626 : (Jvm.Cond.constantDouble "ThawPoints" 363 (4611686018427387904 : UInt64)) ∈ WT := wt_of (i := 626) (by decide +kernel) (by decide +kernel)
theorem wd_627 : (Jvm.Cond.constantDouble "ThawPoints" 365 (4841369599423283200 : UInt64)) ∈ WT := wt_of (i := 627) (by decide +kernel) (by decide +kernel)
theorem wd_628 : (Jvm.Cond.methodLink "ThawPointsLaw" 89 ⟨"ThawPointsLaw", "make", "(LThawPoints;III[J)I"⟩) ∈ WT := wt_of (i := 628) (by decide +kernel) (by decide +kernel)
theorem wd_629 : (Jvm.Cond.static ⟨"ThawPointsLaw", "make", "(LThawPoints;III[J)I"⟩) ∈ WT := wt_of (i := 629) (by decide +kernel) (by decide +kernel)
theorem wd_630 : (Jvm.Cond.codeWith ⟨"ThawPointsLaw", "make", "(LThawPoints;III[J)I"⟩ method_3_code 6 (some .int) [(0, 12, 15, 13), (0, 12, 19, 15)]) ∈ WT := wt_of (i := 630) (by decide +kernel) (by decide +kernel)
theorem wd_631 : (Jvm.Cond.classLink "ThawPointsLaw" 13 "java/lang/IllegalArgumentException") ∈ WT := wt_of (i := 631) (by decide +kernel) (by decide +kernel)
theorem wd_632 : (Jvm.Cond.classLink "ThawPointsLaw" 15 "java/lang/IllegalStateException") ∈ WT := wt_of (i := 632) (by decide +kernel) (by decide +kernel)
theorem wd_633 : (Jvm.Cond.methodLink "ThawPointsLaw" 7 ⟨"ThawPoints", "make", "(III)I"⟩) ∈ WT := wt_of (i := 633) (by decide +kernel) (by decide +kernel)
theorem wd_634 : (Jvm.Cond.instanceMethod ⟨"ThawPoints", "make", "(III)I"⟩) ∈ WT := wt_of (i := 634) (by decide +kernel) (by decide +kernel)
theorem wd_635 : (Jvm.Cond.selects "ThawPoints" ⟨"ThawPoints", "make", "(III)I"⟩ ⟨"ThawPoints", "make", "(III)I"⟩) ∈ WT := wt_of (i := 635) (by decide +kernel) (by decide +kernel)
theorem wd_636 : (Jvm.Cond.code ⟨"ThawPoints", "make", "(III)I"⟩ prog_1_method_2_code 4 (some .int)) ∈ WT := wt_of (i := 636) (by decide +kernel) (by decide +kernel)
theorem wd_638 : (Jvm.Cond.methodLink "ThawPoints" 44 ⟨"ThawPoints$State", "hasRoom", "()Z"⟩) ∈ WT := wt_of (i := 638) (by decide +kernel) (by decide +kernel)
theorem wd_639 : (Jvm.Cond.instanceMethod ⟨"ThawPoints$State", "hasRoom", "()Z"⟩) ∈ WT := wt_of (i := 639) (by decide +kernel) (by decide +kernel)
theorem wd_640 : (Jvm.Cond.selects "ThawPoints$State" ⟨"ThawPoints$State", "hasRoom", "()Z"⟩ ⟨"ThawPoints$State", "hasRoom", "()Z"⟩) ∈ WT := wt_of (i := 640) (by decide +kernel) (by decide +kernel)
theorem wd_641 : (Jvm.Cond.code ⟨"ThawPoints$State", "hasRoom", "()Z"⟩ prog_4_method_4_code 1 (some .boolean)) ∈ WT := wt_of (i := 641) (by decide +kernel) (by decide +kernel)
theorem wd_642 : (Jvm.Cond.classLink "ThawPoints" 48 "java/lang/IllegalStateException") ∈ WT := wt_of (i := 642) (by decide +kernel) (by decide +kernel)
theorem wd_643 : (Jvm.Cond.instantiable "java/lang/IllegalStateException" 6) ∈ WT := wt_of (i := 643) (by decide +kernel) (by decide +kernel)
theorem wd_645 : (Jvm.Cond.selects "java/lang/IllegalStateException" ⟨"java/lang/Throwable", "fillInStackTrace", "(I)Ljava/lang/Throwable;"⟩ ⟨"java/lang/Throwable", "fillInStackTrace", "(I)Ljava/lang/Throwable;"⟩) ∈ WT := wt_of (i := 645) (by decide +kernel) (by decide +kernel)
theorem wd_646 : (Jvm.Cond.lays "java/lang/IllegalStateException" "java/lang/Throwable" "cause" "Ljava/lang/Throwable;") ∈ WT := wt_of (i := 646) (by decide +kernel) (by decide +kernel)
theorem wd_647 : (Jvm.Cond.lays "java/lang/IllegalStateException" "java/lang/Throwable" "stackTrace" "[Ljava/lang/StackTraceElement;") ∈ WT := wt_of (i := 647) (by decide +kernel) (by decide +kernel)
theorem wd_648 : (Jvm.Cond.lays "java/lang/IllegalStateException" "java/lang/Throwable" "suppressedExceptions" "Ljava/util/List;") ∈ WT := wt_of (i := 648) (by decide +kernel) (by decide +kernel)
theorem wd_649 : (Jvm.Cond.lays "java/lang/IllegalStateException" "java/lang/Throwable" "detailMessage" "Ljava/lang/String;") ∈ WT := wt_of (i := 649) (by decide +kernel) (by decide +kernel)
theorem wd_650 : (Jvm.Cond.lays "java/lang/IllegalStateException" "java/lang/Throwable" "backtrace" "Ljava/lang/Object;") ∈ WT := wt_of (i := 650) (by decide +kernel) (by decide +kernel)
theorem wd_652 : (Jvm.Cond.methodLink "ThawPoints" 52 ⟨"java/lang/IllegalStateException", "<init>", "(Ljava/lang/String;)V"⟩) ∈ WT := wt_of (i := 652) (by decide +kernel) (by decide +kernel)
theorem wd_653 : (Jvm.Cond.instanceMethod ⟨"java/lang/IllegalStateException", "<init>", "(Ljava/lang/String;)V"⟩) ∈ WT := wt_of (i := 653) (by decide +kernel) (by decide +kernel)
theorem wd_654 : (Jvm.Cond.code ⟨"java/lang/IllegalStateException", "<init>", "(Ljava/lang/String;)V"⟩ prog_12_method_2_code 2 none) ∈ WT := wt_of (i := 654) (by decide +kernel) (by decide +kernel)
theorem wd_655 : (Jvm.Cond.methodLink "java/lang/IllegalStateException" 7 ⟨"java/lang/RuntimeException", "<init>", "(Ljava/lang/String;)V"⟩) ∈ WT := wt_of (i := 655) (by decide +kernel) (by decide +kernel)
theorem wd_656 : (Jvm.Cond.lays "java/lang/IllegalStateException" "java/lang/Throwable" "depth" "I") ∈ WT := wt_of (i := 656) (by decide +kernel) (by decide +kernel)
theorem wd_658 : (Jvm.Cond.methodLink "ThawPoints" 53 ⟨"ThawPoints$History", "push", "(LThawPoints$State;)V"⟩) ∈ WT := wt_of (i := 658) (by decide +kernel) (by decide +kernel)
theorem wd_659 : (Jvm.Cond.instanceMethod ⟨"ThawPoints$History", "push", "(LThawPoints$State;)V"⟩) ∈ WT := wt_of (i := 659) (by decide +kernel) (by decide +kernel)
theorem wd_660 : (Jvm.Cond.selects "ThawPoints$History" ⟨"ThawPoints$History", "push", "(LThawPoints$State;)V"⟩ ⟨"ThawPoints$History", "push", "(LThawPoints$State;)V"⟩) ∈ WT := wt_of (i := 660) (by decide +kernel) (by decide +kernel)
theorem wd_661 : (Jvm.Cond.code ⟨"ThawPoints$History", "push", "(LThawPoints$State;)V"⟩ prog_2_method_2_code 2 none) ∈ WT := wt_of (i := 661) (by decide +kernel) (by decide +kernel)
theorem wd_662 : (Jvm.Cond.methodLink "ThawPoints$History" 25 ⟨"ThawPoints$State", "copyFrom", "(LThawPoints$State;)V"⟩) ∈ WT := wt_of (i := 662) (by decide +kernel) (by decide +kernel)
theorem wd_663 : (Jvm.Cond.methodLink "ThawPoints" 57 ⟨"ThawPoints$State", "addThermometer", "(III)V"⟩) ∈ WT := wt_of (i := 663) (by decide +kernel) (by decide +kernel)
theorem wd_664 : (Jvm.Cond.instanceMethod ⟨"ThawPoints$State", "addThermometer", "(III)V"⟩) ∈ WT := wt_of (i := 664) (by decide +kernel) (by decide +kernel)
theorem wd_665 : (Jvm.Cond.selects "ThawPoints$State" ⟨"ThawPoints$State", "addThermometer", "(III)V"⟩ ⟨"ThawPoints$State", "addThermometer", "(III)V"⟩) ∈ WT := wt_of (i := 665) (by decide +kernel) (by decide +kernel)
theorem wd_666 : (Jvm.Cond.code ⟨"ThawPoints$State", "addThermometer", "(III)V"⟩ prog_4_method_5_code 4 none) ∈ WT := wt_of (i := 666) (by decide +kernel) (by decide +kernel)
theorem wd_667 : (Jvm.Cond.methodLink "ThawPoints$State" 62 ⟨"ThawPoints$State", "hasRoom", "()Z"⟩) ∈ WT := wt_of (i := 667) (by decide +kernel) (by decide +kernel)
theorem wd_668 : (Jvm.Cond.methodLink "ThawPoints$State" 66 ⟨"ThawPoints$Thermometer", "beginAnew", "(III)V"⟩) ∈ WT := wt_of (i := 668) (by decide +kernel) (by decide +kernel)
theorem wd_669 : (Jvm.Cond.instanceMethod ⟨"ThawPoints$Thermometer", "beginAnew", "(III)V"⟩) ∈ WT := wt_of (i := 669) (by decide +kernel) (by decide +kernel)
theorem wd_670 : (Jvm.Cond.selects "ThawPoints$Thermometer" ⟨"ThawPoints$Thermometer", "beginAnew", "(III)V"⟩ ⟨"ThawPoints$Thermometer", "beginAnew", "(III)V"⟩) ∈ WT := wt_of (i := 670) (by decide +kernel) (by decide +kernel)
theorem wd_671 : (Jvm.Cond.code ⟨"ThawPoints$Thermometer", "beginAnew", "(III)V"⟩ prog_5_method_2_code 4 none) ∈ WT := wt_of (i := 671) (by decide +kernel) (by decide +kernel)
theorem wd_672 : (Jvm.Cond.methodLink "ThawPointsLaw" 98 ⟨"ThawPointsLaw", "breakOne", "(LThawPoints;I[J)I"⟩) ∈ WT := wt_of (i := 672) (by decide +kernel) (by decide +kernel)
theorem wd_673 : (Jvm.Cond.static ⟨"ThawPointsLaw", "breakOne", "(LThawPoints;I[J)I"⟩) ∈ WT := wt_of (i := 673) (by decide +kernel) (by decide +kernel)
theorem wd_674 : (Jvm.Cond.codeWith ⟨"ThawPointsLaw", "breakOne", "(LThawPoints;I[J)I"⟩ method_4_code 4 (some .int) [(0, 9, 12, 21)]) ∈ WT := wt_of (i := 674) (by decide +kernel) (by decide +kernel)
theorem wd_675 : (Jvm.Cond.classLink "ThawPointsLaw" 21 "java/lang/IndexOutOfBoundsException") ∈ WT := wt_of (i := 675) (by decide +kernel) (by decide +kernel)
theorem wd_676 : (Jvm.Cond.methodLink "ThawPointsLaw" 17 ⟨"ThawPoints", "breakOne", "(I)I"⟩) ∈ WT := wt_of (i := 676) (by decide +kernel) (by decide +kernel)
theorem wd_677 : (Jvm.Cond.instanceMethod ⟨"ThawPoints", "breakOne", "(I)I"⟩) ∈ WT := wt_of (i := 677) (by decide +kernel) (by decide +kernel)
theorem wd_678 : (Jvm.Cond.selects "ThawPoints" ⟨"ThawPoints", "breakOne", "(I)I"⟩ ⟨"ThawPoints", "breakOne", "(I)I"⟩) ∈ WT := wt_of (i := 678) (by decide +kernel) (by decide +kernel)
theorem wd_679 : (Jvm.Cond.code ⟨"ThawPoints", "breakOne", "(I)I"⟩ prog_1_method_3_code 3 (some .int)) ∈ WT := wt_of (i := 679) (by decide +kernel) (by decide +kernel)
theorem wd_680 : (Jvm.Cond.methodLink "ThawPoints" 82 ⟨"ThawPoints$State", "removeThermometer", "(I)V"⟩) ∈ WT := wt_of (i := 680) (by decide +kernel) (by decide +kernel)
theorem wd_681 : (Jvm.Cond.instanceMethod ⟨"ThawPoints$State", "removeThermometer", "(I)V"⟩) ∈ WT := wt_of (i := 681) (by decide +kernel) (by decide +kernel)
theorem wd_682 : (Jvm.Cond.selects "ThawPoints$State" ⟨"ThawPoints$State", "removeThermometer", "(I)V"⟩ ⟨"ThawPoints$State", "removeThermometer", "(I)V"⟩) ∈ WT := wt_of (i := 682) (by decide +kernel) (by decide +kernel)
theorem wd_683 : (Jvm.Cond.code ⟨"ThawPoints$State", "removeThermometer", "(I)V"⟩ prog_4_method_6_code 4 none) ∈ WT := wt_of (i := 683) (by decide +kernel) (by decide +kernel)
theorem wd_684 : (Jvm.Cond.methodLink "ThawPoints$State" 70 ⟨"ThawPoints$State", "has", "(I)Z"⟩) ∈ WT := wt_of (i := 684) (by decide +kernel) (by decide +kernel)
theorem wd_685 : (Jvm.Cond.methodLink "ThawPointsLaw" 102 ⟨"ThawPointsLaw", "bath", "(LThawPoints;II[J)I"⟩) ∈ WT := wt_of (i := 685) (by decide +kernel) (by decide +kernel)
theorem wd_686 : (Jvm.Cond.static ⟨"ThawPointsLaw", "bath", "(LThawPoints;II[J)I"⟩) ∈ WT := wt_of (i := 686) (by decide +kernel) (by decide +kernel)
theorem wd_687 : (Jvm.Cond.codeWith ⟨"ThawPointsLaw", "bath", "(LThawPoints;II[J)I"⟩ method_5_code 5 (some .int) [(0, 10, 13, 21), (0, 10, 17, 13)]) ∈ WT := wt_of (i := 687) (by decide +kernel) (by decide +kernel)
theorem wd_688 : (Jvm.Cond.methodLink "ThawPointsLaw" 23 ⟨"ThawPoints", "bath", "(II)I"⟩) ∈ WT := wt_of (i := 688) (by decide +kernel) (by decide +kernel)
theorem wd_689 : (Jvm.Cond.instanceMethod ⟨"ThawPoints", "bath", "(II)I"⟩) ∈ WT := wt_of (i := 689) (by decide +kernel) (by decide +kernel)
theorem wd_690 : (Jvm.Cond.selects "ThawPoints" ⟨"ThawPoints", "bath", "(II)I"⟩ ⟨"ThawPoints", "bath", "(II)I"⟩) ∈ WT := wt_of (i := 690) (by decide +kernel) (by decide +kernel)
theorem wd_691 : (Jvm.Cond.code ⟨"ThawPoints", "bath", "(II)I"⟩ prog_1_method_4_code 4 (some .int)) ∈ WT := wt_of (i := 691) (by decide +kernel) (by decide +kernel)
theorem wd_692 : (Jvm.Cond.methodLink "ThawPointsLaw" 106 ⟨"ThawPointsLaw", "pass", "(LThawPoints;I[J)I"⟩) ∈ WT := wt_of (i := 692) (by decide +kernel) (by decide +kernel)
theorem wd_693 : (Jvm.Cond.static ⟨"ThawPointsLaw", "pass", "(LThawPoints;I[J)I"⟩) ∈ WT := wt_of (i := 693) (by decide +kernel) (by decide +kernel)
theorem wd_694 : (Jvm.Cond.codeWith ⟨"ThawPointsLaw", "pass", "(LThawPoints;I[J)I"⟩ method_6_code 4 (some .int) [(0, 9, 12, 13)]) ∈ WT := wt_of (i := 694) (by decide +kernel) (by decide +kernel)
theorem wd_695 : (Jvm.Cond.methodLink "ThawPointsLaw" 27 ⟨"ThawPoints", "pass", "(I)I"⟩) ∈ WT := wt_of (i := 695) (by decide +kernel) (by decide +kernel)
theorem wd_696 : (Jvm.Cond.instanceMethod ⟨"ThawPoints", "pass", "(I)I"⟩) ∈ WT := wt_of (i := 696) (by decide +kernel) (by decide +kernel)
theorem wd_697 : (Jvm.Cond.selects "ThawPoints" ⟨"ThawPoints", "pass", "(I)I"⟩ ⟨"ThawPoints", "pass", "(I)I"⟩) ∈ WT := wt_of (i := 697) (by decide +kernel) (by decide +kernel)
theorem wd_698 : (Jvm.Cond.code ⟨"ThawPoints", "pass", "(I)I"⟩ prog_1_method_5_code 2 (some .int)) ∈ WT := wt_of (i := 698) (by decide +kernel) (by decide +kernel)
theorem wd_700 : (Jvm.Cond.methodLink "ThawPoints" 97 ⟨"ThawPoints$State", "letPass", "(I)V"⟩) ∈ WT := wt_of (i := 700) (by decide +kernel) (by decide +kernel)
theorem wd_701 : (Jvm.Cond.instanceMethod ⟨"ThawPoints$State", "letPass", "(I)V"⟩) ∈ WT := wt_of (i := 701) (by decide +kernel) (by decide +kernel)
theorem wd_702 : (Jvm.Cond.selects "ThawPoints$State" ⟨"ThawPoints$State", "letPass", "(I)V"⟩ ⟨"ThawPoints$State", "letPass", "(I)V"⟩) ∈ WT := wt_of (i := 702) (by decide +kernel) (by decide +kernel)
theorem wd_703 : (Jvm.Cond.code ⟨"ThawPoints$State", "letPass", "(I)V"⟩ prog_4_method_8_code 4 none) ∈ WT := wt_of (i := 703) (by decide +kernel) (by decide +kernel)
theorem wd_704 : (Jvm.Cond.methodLink "ThawPoints$State" 78 ⟨"ThawPoints$Thermometer", "growOlder", "(I)V"⟩) ∈ WT := wt_of (i := 704) (by decide +kernel) (by decide +kernel)
theorem wd_705 : (Jvm.Cond.instanceMethod ⟨"ThawPoints$Thermometer", "growOlder", "(I)V"⟩) ∈ WT := wt_of (i := 705) (by decide +kernel) (by decide +kernel)
theorem wd_706 : (Jvm.Cond.selects "ThawPoints$Thermometer" ⟨"ThawPoints$Thermometer", "growOlder", "(I)V"⟩ ⟨"ThawPoints$Thermometer", "growOlder", "(I)V"⟩) ∈ WT := wt_of (i := 706) (by decide +kernel) (by decide +kernel)
theorem wd_707 : (Jvm.Cond.code ⟨"ThawPoints$Thermometer", "growOlder", "(I)V"⟩ prog_5_method_5_code 2 none) ∈ WT := wt_of (i := 707) (by decide +kernel) (by decide +kernel)
theorem wd_708 : (Jvm.Cond.methodLink "ThawPoints$Thermometer" 53 ⟨"ThawPoints$Thermometer", "creepOfYear", "(II)I"⟩) ∈ WT := wt_of (i := 708) (by decide +kernel) (by decide +kernel)
theorem wd_709 : (Jvm.Cond.methodLink "ThawPointsLaw" 109 ⟨"ThawPointsLaw", "set", "(LThawPoints;II[J)I"⟩) ∈ WT := wt_of (i := 709) (by decide +kernel) (by decide +kernel)
theorem wd_710 : (Jvm.Cond.static ⟨"ThawPointsLaw", "set", "(LThawPoints;II[J)I"⟩) ∈ WT := wt_of (i := 710) (by decide +kernel) (by decide +kernel)
theorem wd_711 : (Jvm.Cond.codeWith ⟨"ThawPointsLaw", "set", "(LThawPoints;II[J)I"⟩ method_7_code 5 (some .int) [(0, 10, 13, 21), (0, 10, 17, 13)]) ∈ WT := wt_of (i := 711) (by decide +kernel) (by decide +kernel)
theorem wd_712 : (Jvm.Cond.methodLink "ThawPointsLaw" 30 ⟨"ThawPoints", "set", "(II)I"⟩) ∈ WT := wt_of (i := 712) (by decide +kernel) (by decide +kernel)
theorem wd_713 : (Jvm.Cond.instanceMethod ⟨"ThawPoints", "set", "(II)I"⟩) ∈ WT := wt_of (i := 713) (by decide +kernel) (by decide +kernel)
theorem wd_714 : (Jvm.Cond.selects "ThawPoints" ⟨"ThawPoints", "set", "(II)I"⟩ ⟨"ThawPoints", "set", "(II)I"⟩) ∈ WT := wt_of (i := 714) (by decide +kernel) (by decide +kernel)
theorem wd_715 : (Jvm.Cond.code ⟨"ThawPoints", "set", "(II)I"⟩ prog_1_method_6_code 4 (some .int)) ∈ WT := wt_of (i := 715) (by decide +kernel) (by decide +kernel)
theorem wd_717 : (Jvm.Cond.fieldLink "ThawPoints" 108 "ThawPoints" "SETTING_LIMITS" "[I") ∈ WT := wt_of (i := 717) (by decide +kernel) (by decide +kernel)
theorem wd_720 : (Jvm.Cond.methodLink "ThawPointsLaw" 112 ⟨"ThawPointsLaw", "measure", "(LThawPoints;II[J)I"⟩) ∈ WT := wt_of (i := 720) (by decide +kernel) (by decide +kernel)
theorem wd_721 : (Jvm.Cond.static ⟨"ThawPointsLaw", "measure", "(LThawPoints;II[J)I"⟩) ∈ WT := wt_of (i := 721) (by decide +kernel) (by decide +kernel)
theorem wd_722 : (Jvm.Cond.codeWith ⟨"ThawPointsLaw", "measure", "(LThawPoints;II[J)I"⟩ method_8_code 5 (some .int) [(0, 10, 13, 21), (0, 10, 17, 15)]) ∈ WT := wt_of (i := 722) (by decide +kernel) (by decide +kernel)
theorem wd_723 : (Jvm.Cond.methodLink "ThawPointsLaw" 33 ⟨"ThawPoints", "measure", "(II)I"⟩) ∈ WT := wt_of (i := 723) (by decide +kernel) (by decide +kernel)
theorem wd_724 : (Jvm.Cond.instanceMethod ⟨"ThawPoints", "measure", "(II)I"⟩) ∈ WT := wt_of (i := 724) (by decide +kernel) (by decide +kernel)
theorem wd_725 : (Jvm.Cond.selects "ThawPoints" ⟨"ThawPoints", "measure", "(II)I"⟩ ⟨"ThawPoints", "measure", "(II)I"⟩) ∈ WT := wt_of (i := 725) (by decide +kernel) (by decide +kernel)
theorem wd_726 : (Jvm.Cond.code ⟨"ThawPoints", "measure", "(II)I"⟩ prog_1_method_7_code 5 (some .int)) ∈ WT := wt_of (i := 726) (by decide +kernel) (by decide +kernel)
theorem wd_728 : (Jvm.Cond.methodLink "ThawPoints" 122 ⟨"ThawPoints$Thermometer", "addPoint", "(II)V"⟩) ∈ WT := wt_of (i := 728) (by decide +kernel) (by decide +kernel)
theorem wd_729 : (Jvm.Cond.instanceMethod ⟨"ThawPoints$Thermometer", "addPoint", "(II)V"⟩) ∈ WT := wt_of (i := 729) (by decide +kernel) (by decide +kernel)
theorem wd_730 : (Jvm.Cond.selects "ThawPoints$Thermometer" ⟨"ThawPoints$Thermometer", "addPoint", "(II)V"⟩ ⟨"ThawPoints$Thermometer", "addPoint", "(II)V"⟩) ∈ WT := wt_of (i := 730) (by decide +kernel) (by decide +kernel)
theorem wd_731 : (Jvm.Cond.code ⟨"ThawPoints$Thermometer", "addPoint", "(II)V"⟩ prog_5_method_8_code 3 none) ∈ WT := wt_of (i := 731) (by decide +kernel) (by decide +kernel)
theorem wd_732 : (Jvm.Cond.methodLink "ThawPoints$Thermometer" 67 ⟨"ThawPoints$Points", "dropDegree", "(I)Z"⟩) ∈ WT := wt_of (i := 732) (by decide +kernel) (by decide +kernel)
theorem wd_733 : (Jvm.Cond.instanceMethod ⟨"ThawPoints$Points", "dropDegree", "(I)Z"⟩) ∈ WT := wt_of (i := 733) (by decide +kernel) (by decide +kernel)
theorem wd_734 : (Jvm.Cond.selects "ThawPoints$Points" ⟨"ThawPoints$Points", "dropDegree", "(I)Z"⟩ ⟨"ThawPoints$Points", "dropDegree", "(I)Z"⟩) ∈ WT := wt_of (i := 734) (by decide +kernel) (by decide +kernel)
theorem wd_735 : (Jvm.Cond.code ⟨"ThawPoints$Points", "dropDegree", "(I)Z"⟩ prog_3_method_6_code 5 (some .boolean)) ∈ WT := wt_of (i := 735) (by decide +kernel) (by decide +kernel)
theorem wd_736 : (Jvm.Cond.methodLink "ThawPoints$Points" 50 ⟨"ThawPoints$Points", "indexOf", "(I)I"⟩) ∈ WT := wt_of (i := 736) (by decide +kernel) (by decide +kernel)
theorem wd_737 : (Jvm.Cond.methodLink "ThawPoints$Points" 54 ⟨"ThawPoints$Points", "addLast", "(III)V"⟩) ∈ WT := wt_of (i := 737) (by decide +kernel) (by decide +kernel)
theorem wd_738 : (Jvm.Cond.instanceMethod ⟨"ThawPoints$Points", "addLast", "(III)V"⟩) ∈ WT := wt_of (i := 738) (by decide +kernel) (by decide +kernel)
theorem wd_739 : (Jvm.Cond.selects "ThawPoints$Points" ⟨"ThawPoints$Points", "addLast", "(III)V"⟩ ⟨"ThawPoints$Points", "addLast", "(III)V"⟩) ∈ WT := wt_of (i := 739) (by decide +kernel) (by decide +kernel)
theorem wd_740 : (Jvm.Cond.code ⟨"ThawPoints$Points", "addLast", "(III)V"⟩ prog_3_method_5_code 4 none) ∈ WT := wt_of (i := 740) (by decide +kernel) (by decide +kernel)
theorem wd_741 : (Jvm.Cond.methodLink "ThawPoints$Points" 43 ⟨"ThawPoints$Points", "hang", "(I)V"⟩) ∈ WT := wt_of (i := 741) (by decide +kernel) (by decide +kernel)
theorem wd_743 : (Jvm.Cond.instanceMethod ⟨"ThawPoints$Points", "hang", "(I)V"⟩) ∈ WT := wt_of (i := 743) (by decide +kernel) (by decide +kernel)
theorem wd_744 : (Jvm.Cond.code ⟨"ThawPoints$Points", "hang", "(I)V"⟩ prog_3_method_7_code 6 none) ∈ WT := wt_of (i := 744) (by decide +kernel) (by decide +kernel)
theorem wd_745 : (Jvm.Cond.methodLink "ThawPoints$Points" 47 ⟨"ThawPoints$Points", "putInOrder", "(I)V"⟩) ∈ WT := wt_of (i := 745) (by decide +kernel) (by decide +kernel)
theorem wd_747 : (Jvm.Cond.instanceMethod ⟨"ThawPoints$Points", "putInOrder", "(I)V"⟩) ∈ WT := wt_of (i := 747) (by decide +kernel) (by decide +kernel)
theorem wd_748 : (Jvm.Cond.code ⟨"ThawPoints$Points", "putInOrder", "(I)V"⟩ prog_3_method_8_code 3 none) ∈ WT := wt_of (i := 748) (by decide +kernel) (by decide +kernel)
theorem wd_749 : (Jvm.Cond.methodLink "ThawPoints$Thermometer" 71 ⟨"ThawPoints$Points", "addLast", "(III)V"⟩) ∈ WT := wt_of (i := 749) (by decide +kernel) (by decide +kernel)
theorem wd_750 : (Jvm.Cond.methodLink "ThawPointsLaw" 115 ⟨"ThawPointsLaw", "forget", "(LThawPoints;II[J)I"⟩) ∈ WT := wt_of (i := 750) (by decide +kernel) (by decide +kernel)
theorem wd_751 : (Jvm.Cond.static ⟨"ThawPointsLaw", "forget", "(LThawPoints;II[J)I"⟩) ∈ WT := wt_of (i := 751) (by decide +kernel) (by decide +kernel)
theorem wd_752 : (Jvm.Cond.codeWith ⟨"ThawPointsLaw", "forget", "(LThawPoints;II[J)I"⟩ method_9_code 5 (some .int) [(0, 10, 13, 21), (0, 10, 17, 13)]) ∈ WT := wt_of (i := 752) (by decide +kernel) (by decide +kernel)
theorem wd_753 : (Jvm.Cond.methodLink "ThawPointsLaw" 36 ⟨"ThawPoints", "forget", "(II)I"⟩) ∈ WT := wt_of (i := 753) (by decide +kernel) (by decide +kernel)
theorem wd_754 : (Jvm.Cond.instanceMethod ⟨"ThawPoints", "forget", "(II)I"⟩) ∈ WT := wt_of (i := 754) (by decide +kernel) (by decide +kernel)
theorem wd_755 : (Jvm.Cond.selects "ThawPoints" ⟨"ThawPoints", "forget", "(II)I"⟩ ⟨"ThawPoints", "forget", "(II)I"⟩) ∈ WT := wt_of (i := 755) (by decide +kernel) (by decide +kernel)
theorem wd_756 : (Jvm.Cond.code ⟨"ThawPoints", "forget", "(II)I"⟩ prog_1_method_8_code 3 (some .int)) ∈ WT := wt_of (i := 756) (by decide +kernel) (by decide +kernel)
theorem wd_757 : (Jvm.Cond.methodLink "ThawPoints" 126 ⟨"ThawPoints$Points", "dropDegree", "(I)Z"⟩) ∈ WT := wt_of (i := 757) (by decide +kernel) (by decide +kernel)
theorem wd_758 : (Jvm.Cond.methodLink "ThawPointsLaw" 118 ⟨"ThawPointsLaw", "paper", "(LThawPoints;I[J)I"⟩) ∈ WT := wt_of (i := 758) (by decide +kernel) (by decide +kernel)
theorem wd_759 : (Jvm.Cond.static ⟨"ThawPointsLaw", "paper", "(LThawPoints;I[J)I"⟩) ∈ WT := wt_of (i := 759) (by decide +kernel) (by decide +kernel)
theorem wd_760 : (Jvm.Cond.codeWith ⟨"ThawPointsLaw", "paper", "(LThawPoints;I[J)I"⟩ method_10_code 4 (some .int) [(0, 9, 12, 21), (0, 9, 15, 15)]) ∈ WT := wt_of (i := 760) (by decide +kernel) (by decide +kernel)
theorem wd_761 : (Jvm.Cond.methodLink "ThawPointsLaw" 39 ⟨"ThawPoints", "paper", "(I)I"⟩) ∈ WT := wt_of (i := 761) (by decide +kernel) (by decide +kernel)
theorem wd_762 : (Jvm.Cond.instanceMethod ⟨"ThawPoints", "paper", "(I)I"⟩) ∈ WT := wt_of (i := 762) (by decide +kernel) (by decide +kernel)
theorem wd_763 : (Jvm.Cond.selects "ThawPoints" ⟨"ThawPoints", "paper", "(I)I"⟩ ⟨"ThawPoints", "paper", "(I)I"⟩) ∈ WT := wt_of (i := 763) (by decide +kernel) (by decide +kernel)
theorem wd_764 : (Jvm.Cond.code ⟨"ThawPoints", "paper", "(I)I"⟩ prog_1_method_9_code 3 (some .int)) ∈ WT := wt_of (i := 764) (by decide +kernel) (by decide +kernel)
theorem wd_766 : (Jvm.Cond.methodLink "ThawPoints" 136 ⟨"ThawPoints$State", "giveSeal", "(LThawPoints$Thermometer;)V"⟩) ∈ WT := wt_of (i := 766) (by decide +kernel) (by decide +kernel)
theorem wd_767 : (Jvm.Cond.instanceMethod ⟨"ThawPoints$State", "giveSeal", "(LThawPoints$Thermometer;)V"⟩) ∈ WT := wt_of (i := 767) (by decide +kernel) (by decide +kernel)
theorem wd_768 : (Jvm.Cond.selects "ThawPoints$State" ⟨"ThawPoints$State", "giveSeal", "(LThawPoints$Thermometer;)V"⟩ ⟨"ThawPoints$State", "giveSeal", "(LThawPoints$Thermometer;)V"⟩) ∈ WT := wt_of (i := 768) (by decide +kernel) (by decide +kernel)
theorem wd_769 : (Jvm.Cond.code ⟨"ThawPoints$State", "giveSeal", "(LThawPoints$Thermometer;)V"⟩ prog_4_method_13_code 2 none) ∈ WT := wt_of (i := 769) (by decide +kernel) (by decide +kernel)
theorem wd_770 : (Jvm.Cond.methodLink "ThawPointsLaw" 121 ⟨"ThawPointsLaw", "append", "(LThawPoints;I[J)I"⟩) ∈ WT := wt_of (i := 770) (by decide +kernel) (by decide +kernel)
theorem wd_771 : (Jvm.Cond.static ⟨"ThawPointsLaw", "append", "(LThawPoints;I[J)I"⟩) ∈ WT := wt_of (i := 771) (by decide +kernel) (by decide +kernel)
theorem wd_772 : (Jvm.Cond.codeWith ⟨"ThawPointsLaw", "append", "(LThawPoints;I[J)I"⟩ method_11_code 4 (some .int) [(0, 9, 12, 13), (0, 9, 15, 15)]) ∈ WT := wt_of (i := 772) (by decide +kernel) (by decide +kernel)
theorem wd_773 : (Jvm.Cond.methodLink "ThawPointsLaw" 42 ⟨"ThawPoints", "append", "(I)I"⟩) ∈ WT := wt_of (i := 773) (by decide +kernel) (by decide +kernel)
theorem wd_774 : (Jvm.Cond.instanceMethod ⟨"ThawPoints", "append", "(I)I"⟩) ∈ WT := wt_of (i := 774) (by decide +kernel) (by decide +kernel)
theorem wd_775 : (Jvm.Cond.selects "ThawPoints" ⟨"ThawPoints", "append", "(I)I"⟩ ⟨"ThawPoints", "append", "(I)I"⟩) ∈ WT := wt_of (i := 775) (by decide +kernel) (by decide +kernel)
theorem wd_776 : (Jvm.Cond.code ⟨"ThawPoints", "append", "(I)I"⟩ prog_1_method_10_code 2 (some .int)) ∈ WT := wt_of (i := 776) (by decide +kernel) (by decide +kernel)
theorem wd_779 : (Jvm.Cond.methodLink "ThawPoints" 150 ⟨"ThawPoints$Works", "addSign", "(I)V"⟩) ∈ WT := wt_of (i := 779) (by decide +kernel) (by decide +kernel)
theorem wd_780 : (Jvm.Cond.instanceMethod ⟨"ThawPoints$Works", "addSign", "(I)V"⟩) ∈ WT := wt_of (i := 780) (by decide +kernel) (by decide +kernel)
theorem wd_781 : (Jvm.Cond.selects "ThawPoints$Works" ⟨"ThawPoints$Works", "addSign", "(I)V"⟩ ⟨"ThawPoints$Works", "addSign", "(I)V"⟩) ∈ WT := wt_of (i := 781) (by decide +kernel) (by decide +kernel)
theorem wd_782 : (Jvm.Cond.code ⟨"ThawPoints$Works", "addSign", "(I)V"⟩ prog_6_method_2_code 2 none) ∈ WT := wt_of (i := 782) (by decide +kernel) (by decide +kernel)
theorem wd_783 : (Jvm.Cond.methodLink "ThawPointsLaw" 132 ⟨"ThawPointsLaw", "work", "(LThawPoints;[J)I"⟩) ∈ WT := wt_of (i := 783) (by decide +kernel) (by decide +kernel)
theorem wd_784 : (Jvm.Cond.static ⟨"ThawPointsLaw", "work", "(LThawPoints;[J)I"⟩) ∈ WT := wt_of (i := 784) (by decide +kernel) (by decide +kernel)
theorem wd_785 : (Jvm.Cond.codeWith ⟨"ThawPointsLaw", "work", "(LThawPoints;[J)I"⟩ method_12_code 3 (some .int) [(0, 8, 11, 13)]) ∈ WT := wt_of (i := 785) (by decide +kernel) (by decide +kernel)
theorem wd_786 : (Jvm.Cond.methodLink "ThawPointsLaw" 45 ⟨"ThawPoints", "work", "()I"⟩) ∈ WT := wt_of (i := 786) (by decide +kernel) (by decide +kernel)
theorem wd_787 : (Jvm.Cond.instanceMethod ⟨"ThawPoints", "work", "()I"⟩) ∈ WT := wt_of (i := 787) (by decide +kernel) (by decide +kernel)
theorem wd_788 : (Jvm.Cond.selects "ThawPoints" ⟨"ThawPoints", "work", "()I"⟩ ⟨"ThawPoints", "work", "()I"⟩) ∈ WT := wt_of (i := 788) (by decide +kernel) (by decide +kernel)
theorem wd_789 : (Jvm.Cond.code ⟨"ThawPoints", "work", "()I"⟩ prog_1_method_13_code 3 (some .int)) ∈ WT := wt_of (i := 789) (by decide +kernel) (by decide +kernel)
theorem wd_791 : (Jvm.Cond.methodLink "ThawPoints" 161 ⟨"ThawPoints$Works", "readPart", "()Z"⟩) ∈ WT := wt_of (i := 791) (by decide +kernel) (by decide +kernel)
theorem wd_792 : (Jvm.Cond.methodLink "ThawPoints" 164 ⟨"ThawPoints", "tryPart", "()I"⟩) ∈ WT := wt_of (i := 792) (by decide +kernel) (by decide +kernel)
theorem wd_794 : (Jvm.Cond.instanceMethod ⟨"ThawPoints", "tryPart", "()I"⟩) ∈ WT := wt_of (i := 794) (by decide +kernel) (by decide +kernel)
theorem wd_795 : (Jvm.Cond.code ⟨"ThawPoints", "tryPart", "()I"⟩ prog_1_method_33_code 3 (some .int)) ∈ WT := wt_of (i := 795) (by decide +kernel) (by decide +kernel)
theorem wd_796 : (Jvm.Cond.methodLink "ThawPoints" 318 ⟨"ThawPoints", "tryToMake", "(III)I"⟩) ∈ WT := wt_of (i := 796) (by decide +kernel) (by decide +kernel)
theorem wd_798 : (Jvm.Cond.instanceMethod ⟨"ThawPoints", "tryToMake", "(III)I"⟩) ∈ WT := wt_of (i := 798) (by decide +kernel) (by decide +kernel)
theorem wd_799 : (Jvm.Cond.code ⟨"ThawPoints", "tryToMake", "(III)I"⟩ prog_1_method_34_code 4 (some .int)) ∈ WT := wt_of (i := 799) (by decide +kernel) (by decide +kernel)
theorem wd_800 : (Jvm.Cond.methodLink "ThawPoints" 322 ⟨"ThawPoints", "tryToMeasure", "(II)I"⟩) ∈ WT := wt_of (i := 800) (by decide +kernel) (by decide +kernel)
theorem wd_802 : (Jvm.Cond.instanceMethod ⟨"ThawPoints", "tryToMeasure", "(II)I"⟩) ∈ WT := wt_of (i := 802) (by decide +kernel) (by decide +kernel)
theorem wd_803 : (Jvm.Cond.code ⟨"ThawPoints", "tryToMeasure", "(II)I"⟩ prog_1_method_35_code 6 (some .int)) ∈ WT := wt_of (i := 803) (by decide +kernel) (by decide +kernel)
theorem wd_804 : (Jvm.Cond.methodLink "ThawPoints" 326 ⟨"ThawPoints", "tryToSeal", "(I)I"⟩) ∈ WT := wt_of (i := 804) (by decide +kernel) (by decide +kernel)
theorem wd_806 : (Jvm.Cond.instanceMethod ⟨"ThawPoints", "tryToSeal", "(I)I"⟩) ∈ WT := wt_of (i := 806) (by decide +kernel) (by decide +kernel)
theorem wd_807 : (Jvm.Cond.code ⟨"ThawPoints", "tryToSeal", "(I)I"⟩ prog_1_method_36_code 4 (some .int)) ∈ WT := wt_of (i := 807) (by decide +kernel) (by decide +kernel)
theorem wd_808 : (Jvm.Cond.methodLink "ThawPoints" 329 ⟨"ThawPoints$State", "changeBath", "(II)V"⟩) ∈ WT := wt_of (i := 808) (by decide +kernel) (by decide +kernel)
theorem wd_809 : (Jvm.Cond.instanceMethod ⟨"ThawPoints$State", "changeBath", "(II)V"⟩) ∈ WT := wt_of (i := 809) (by decide +kernel) (by decide +kernel)
theorem wd_810 : (Jvm.Cond.selects "ThawPoints$State" ⟨"ThawPoints$State", "changeBath", "(II)V"⟩ ⟨"ThawPoints$State", "changeBath", "(II)V"⟩) ∈ WT := wt_of (i := 810) (by decide +kernel) (by decide +kernel)
theorem wd_811 : (Jvm.Cond.code ⟨"ThawPoints$State", "changeBath", "(II)V"⟩ prog_4_method_7_code 3 none) ∈ WT := wt_of (i := 811) (by decide +kernel) (by decide +kernel)
theorem wd_812 : (Jvm.Cond.methodLink "ThawPoints" 168 ⟨"ThawPoints$Works", "readSign", "(C)Z"⟩) ∈ WT := wt_of (i := 812) (by decide +kernel) (by decide +kernel)
theorem wd_813 : (Jvm.Cond.methodLink "ThawPointsLaw" 136 ⟨"ThawPointsLaw", "stopped", "(LThawPoints;I[J)I"⟩) ∈ WT := wt_of (i := 813) (by decide +kernel) (by decide +kernel)
theorem wd_814 : (Jvm.Cond.static ⟨"ThawPointsLaw", "stopped", "(LThawPoints;I[J)I"⟩) ∈ WT := wt_of (i := 814) (by decide +kernel) (by decide +kernel)
theorem wd_815 : (Jvm.Cond.codeWith ⟨"ThawPointsLaw", "stopped", "(LThawPoints;I[J)I"⟩ method_13_code 4 (some .int) [(0, 9, 12, 13)]) ∈ WT := wt_of (i := 815) (by decide +kernel) (by decide +kernel)
theorem wd_816 : (Jvm.Cond.methodLink "ThawPointsLaw" 49 ⟨"ThawPoints", "stopped", "(I)I"⟩) ∈ WT := wt_of (i := 816) (by decide +kernel) (by decide +kernel)
theorem wd_817 : (Jvm.Cond.methodLink "ThawPointsLaw" 139 ⟨"ThawPointsLaw", "undo", "(LThawPoints;[J)I"⟩) ∈ WT := wt_of (i := 817) (by decide +kernel) (by decide +kernel)
theorem wd_818 : (Jvm.Cond.static ⟨"ThawPointsLaw", "undo", "(LThawPoints;[J)I"⟩) ∈ WT := wt_of (i := 818) (by decide +kernel) (by decide +kernel)
theorem wd_819 : (Jvm.Cond.codeWith ⟨"ThawPointsLaw", "undo", "(LThawPoints;[J)I"⟩ method_14_code 3 (some .int) [(0, 8, 11, 15)]) ∈ WT := wt_of (i := 819) (by decide +kernel) (by decide +kernel)
theorem wd_820 : (Jvm.Cond.methodLink "ThawPointsLaw" 52 ⟨"ThawPoints", "undo", "()I"⟩) ∈ WT := wt_of (i := 820) (by decide +kernel) (by decide +kernel)
theorem wd_821 : (Jvm.Cond.instanceMethod ⟨"ThawPoints", "undo", "()I"⟩) ∈ WT := wt_of (i := 821) (by decide +kernel) (by decide +kernel)
theorem wd_822 : (Jvm.Cond.selects "ThawPoints" ⟨"ThawPoints", "undo", "()I"⟩ ⟨"ThawPoints", "undo", "()I"⟩) ∈ WT := wt_of (i := 822) (by decide +kernel) (by decide +kernel)
theorem wd_823 : (Jvm.Cond.code ⟨"ThawPoints", "undo", "()I"⟩ prog_1_method_15_code 1 (some .int)) ∈ WT := wt_of (i := 823) (by decide +kernel) (by decide +kernel)
theorem wd_825 : (Jvm.Cond.methodLink "ThawPoints" 183 ⟨"ThawPoints$History", "popInto", "(LThawPoints$State;)V"⟩) ∈ WT := wt_of (i := 825) (by decide +kernel) (by decide +kernel)
theorem wd_826 : (Jvm.Cond.instanceMethod ⟨"ThawPoints$History", "popInto", "(LThawPoints$State;)V"⟩) ∈ WT := wt_of (i := 826) (by decide +kernel) (by decide +kernel)
theorem wd_827 : (Jvm.Cond.selects "ThawPoints$History" ⟨"ThawPoints$History", "popInto", "(LThawPoints$State;)V"⟩ ⟨"ThawPoints$History", "popInto", "(LThawPoints$State;)V"⟩) ∈ WT := wt_of (i := 827) (by decide +kernel) (by decide +kernel)
theorem wd_828 : (Jvm.Cond.code ⟨"ThawPoints$History", "popInto", "(LThawPoints$State;)V"⟩ prog_2_method_3_code 2 none) ∈ WT := wt_of (i := 828) (by decide +kernel) (by decide +kernel)
theorem wd_829 : (Jvm.Cond.methodLink "ThawPointsLaw" 146 ⟨"ThawPointsLaw", "restore", "(LThawPoints;[J)I"⟩) ∈ WT := wt_of (i := 829) (by decide +kernel) (by decide +kernel)
theorem wd_830 : (Jvm.Cond.static ⟨"ThawPointsLaw", "restore", "(LThawPoints;[J)I"⟩) ∈ WT := wt_of (i := 830) (by decide +kernel) (by decide +kernel)
theorem wd_831 : (Jvm.Cond.codeWith ⟨"ThawPointsLaw", "restore", "(LThawPoints;[J)I"⟩ method_15_code 3 (some .int) [(0, 8, 11, 15)]) ∈ WT := wt_of (i := 831) (by decide +kernel) (by decide +kernel)
theorem wd_832 : (Jvm.Cond.methodLink "ThawPointsLaw" 55 ⟨"ThawPoints", "restore", "()I"⟩) ∈ WT := wt_of (i := 832) (by decide +kernel) (by decide +kernel)
theorem wd_833 : (Jvm.Cond.instanceMethod ⟨"ThawPoints", "restore", "()I"⟩) ∈ WT := wt_of (i := 833) (by decide +kernel) (by decide +kernel)
theorem wd_834 : (Jvm.Cond.selects "ThawPoints" ⟨"ThawPoints", "restore", "()I"⟩ ⟨"ThawPoints", "restore", "()I"⟩) ∈ WT := wt_of (i := 834) (by decide +kernel) (by decide +kernel)
theorem wd_835 : (Jvm.Cond.code ⟨"ThawPoints", "restore", "()I"⟩ prog_1_method_17_code 1 (some .int)) ∈ WT := wt_of (i := 835) (by decide +kernel) (by decide +kernel)
theorem wd_837 : (Jvm.Cond.methodLink "ThawPointsLaw" 149 ⟨"ThawPointsLaw", "reads", "(LThawPoints;II[J)I"⟩) ∈ WT := wt_of (i := 837) (by decide +kernel) (by decide +kernel)
theorem wd_838 : (Jvm.Cond.static ⟨"ThawPointsLaw", "reads", "(LThawPoints;II[J)I"⟩) ∈ WT := wt_of (i := 838) (by decide +kernel) (by decide +kernel)
theorem wd_839 : (Jvm.Cond.codeWith ⟨"ThawPointsLaw", "reads", "(LThawPoints;II[J)I"⟩ method_16_code 5 (some .int) [(0, 10, 13, 21), (0, 10, 17, 13)]) ∈ WT := wt_of (i := 839) (by decide +kernel) (by decide +kernel)
theorem wd_840 : (Jvm.Cond.methodLink "ThawPointsLaw" 58 ⟨"ThawPoints", "reads", "(II)I"⟩) ∈ WT := wt_of (i := 840) (by decide +kernel) (by decide +kernel)
theorem wd_841 : (Jvm.Cond.methodLink "ThawPointsLaw" 152 ⟨"ThawPointsLaw", "corrected", "(LThawPoints;III[J)I"⟩) ∈ WT := wt_of (i := 841) (by decide +kernel) (by decide +kernel)
theorem wd_842 : (Jvm.Cond.static ⟨"ThawPointsLaw", "corrected", "(LThawPoints;III[J)I"⟩) ∈ WT := wt_of (i := 842) (by decide +kernel) (by decide +kernel)
theorem wd_843 : (Jvm.Cond.codeWith ⟨"ThawPointsLaw", "corrected", "(LThawPoints;III[J)I"⟩ method_17_code 6 (some .int) [(0, 12, 15, 21), (0, 12, 19, 13)]) ∈ WT := wt_of (i := 843) (by decide +kernel) (by decide +kernel)
theorem wd_844 : (Jvm.Cond.methodLink "ThawPointsLaw" 61 ⟨"ThawPoints", "corrected", "(III)I"⟩) ∈ WT := wt_of (i := 844) (by decide +kernel) (by decide +kernel)
theorem wd_845 : (Jvm.Cond.methodLink "ThawPointsLaw" 155 ⟨"ThawPointsLaw", "thermometer", "(LThawPoints;II[J)I"⟩) ∈ WT := wt_of (i := 845) (by decide +kernel) (by decide +kernel)
theorem wd_846 : (Jvm.Cond.static ⟨"ThawPointsLaw", "thermometer", "(LThawPoints;II[J)I"⟩) ∈ WT := wt_of (i := 846) (by decide +kernel) (by decide +kernel)
theorem wd_847 : (Jvm.Cond.codeWith ⟨"ThawPointsLaw", "thermometer", "(LThawPoints;II[J)I"⟩ method_18_code 5 (some .int) [(0, 10, 13, 21), (0, 10, 17, 13)]) ∈ WT := wt_of (i := 847) (by decide +kernel) (by decide +kernel)
theorem wd_848 : (Jvm.Cond.methodLink "ThawPointsLaw" 64 ⟨"ThawPoints", "thermometer", "(II)I"⟩) ∈ WT := wt_of (i := 848) (by decide +kernel) (by decide +kernel)
theorem wd_849 : (Jvm.Cond.methodLink "ThawPointsLaw" 158 ⟨"ThawPointsLaw", "point", "(LThawPoints;III[J)I"⟩) ∈ WT := wt_of (i := 849) (by decide +kernel) (by decide +kernel)
theorem wd_850 : (Jvm.Cond.static ⟨"ThawPointsLaw", "point", "(LThawPoints;III[J)I"⟩) ∈ WT := wt_of (i := 850) (by decide +kernel) (by decide +kernel)
theorem wd_851 : (Jvm.Cond.codeWith ⟨"ThawPointsLaw", "point", "(LThawPoints;III[J)I"⟩ method_19_code 6 (some .int) [(0, 12, 15, 21), (0, 12, 19, 13)]) ∈ WT := wt_of (i := 851) (by decide +kernel) (by decide +kernel)
theorem wd_852 : (Jvm.Cond.methodLink "ThawPointsLaw" 67 ⟨"ThawPoints", "point", "(III)I"⟩) ∈ WT := wt_of (i := 852) (by decide +kernel) (by decide +kernel)
theorem wd_853 : (Jvm.Cond.methodLink "ThawPointsLaw" 161 ⟨"ThawPointsLaw", "count", "(LThawPoints;I[J)I"⟩) ∈ WT := wt_of (i := 853) (by decide +kernel) (by decide +kernel)
theorem wd_854 : (Jvm.Cond.static ⟨"ThawPointsLaw", "count", "(LThawPoints;I[J)I"⟩) ∈ WT := wt_of (i := 854) (by decide +kernel) (by decide +kernel)
theorem wd_855 : (Jvm.Cond.codeWith ⟨"ThawPointsLaw", "count", "(LThawPoints;I[J)I"⟩ method_20_code 4 (some .int) [(0, 9, 12, 13)]) ∈ WT := wt_of (i := 855) (by decide +kernel) (by decide +kernel)
theorem wd_856 : (Jvm.Cond.methodLink "ThawPointsLaw" 70 ⟨"ThawPoints", "count", "(I)I"⟩) ∈ WT := wt_of (i := 856) (by decide +kernel) (by decide +kernel)
theorem wd_857 : (Jvm.Cond.methodLink "ThawPointsLaw" 164 ⟨"ThawPointsLaw", "whyNot", "(LThawPoints;II[J)I"⟩) ∈ WT := wt_of (i := 857) (by decide +kernel) (by decide +kernel)
theorem wd_858 : (Jvm.Cond.static ⟨"ThawPointsLaw", "whyNot", "(LThawPoints;II[J)I"⟩) ∈ WT := wt_of (i := 858) (by decide +kernel) (by decide +kernel)
theorem wd_859 : (Jvm.Cond.codeWith ⟨"ThawPointsLaw", "whyNot", "(LThawPoints;II[J)I"⟩ method_21_code 5 (some .int) [(0, 10, 13, 21)]) ∈ WT := wt_of (i := 859) (by decide +kernel) (by decide +kernel)
theorem wd_860 : (Jvm.Cond.methodLink "ThawPointsLaw" 73 ⟨"ThawPoints", "whyNot", "(II)I"⟩) ∈ WT := wt_of (i := 860) (by decide +kernel) (by decide +kernel)
theorem wd_861 : (Jvm.Cond.methodLink "ThawPointsLaw" 167 ⟨"ThawPointsLaw", "overlap", "(LThawPoints;III[J)I"⟩) ∈ WT := wt_of (i := 861) (by decide +kernel) (by decide +kernel)
theorem wd_862 : (Jvm.Cond.static ⟨"ThawPointsLaw", "overlap", "(LThawPoints;III[J)I"⟩) ∈ WT := wt_of (i := 862) (by decide +kernel) (by decide +kernel)
theorem wd_863 : (Jvm.Cond.codeWith ⟨"ThawPointsLaw", "overlap", "(LThawPoints;III[J)I"⟩ method_22_code 6 (some .int) [(0, 12, 15, 21), (0, 12, 19, 13)]) ∈ WT := wt_of (i := 863) (by decide +kernel) (by decide +kernel)
theorem wd_864 : (Jvm.Cond.methodLink "ThawPointsLaw" 76 ⟨"ThawPoints", "overlap", "(III)I"⟩) ∈ WT := wt_of (i := 864) (by decide +kernel) (by decide +kernel)
theorem wd_865 : (Jvm.Cond.methodLink "ThawPointsLaw" 170 ⟨"ThawPointsLaw", "worstDegree", "(LThawPoints;II[J)I"⟩) ∈ WT := wt_of (i := 865) (by decide +kernel) (by decide +kernel)
theorem wd_866 : (Jvm.Cond.static ⟨"ThawPointsLaw", "worstDegree", "(LThawPoints;II[J)I"⟩) ∈ WT := wt_of (i := 866) (by decide +kernel) (by decide +kernel)
theorem wd_867 : (Jvm.Cond.codeWith ⟨"ThawPointsLaw", "worstDegree", "(LThawPoints;II[J)I"⟩ method_23_code 5 (some .int) [(0, 10, 13, 21)]) ∈ WT := wt_of (i := 867) (by decide +kernel) (by decide +kernel)
theorem wd_868 : (Jvm.Cond.methodLink "ThawPointsLaw" 79 ⟨"ThawPoints", "worstDegree", "(II)I"⟩) ∈ WT := wt_of (i := 868) (by decide +kernel) (by decide +kernel)
theorem wd_869 : (Jvm.Cond.methodLink "ThawPointsLaw" 173 ⟨"ThawPointsLaw", "voidIn", "(LThawPoints;I[J)I"⟩) ∈ WT := wt_of (i := 869) (by decide +kernel) (by decide +kernel)
theorem wd_870 : (Jvm.Cond.static ⟨"ThawPointsLaw", "voidIn", "(LThawPoints;I[J)I"⟩) ∈ WT := wt_of (i := 870) (by decide +kernel) (by decide +kernel)
theorem wd_871 : (Jvm.Cond.codeWith ⟨"ThawPointsLaw", "voidIn", "(LThawPoints;I[J)I"⟩ method_24_code 4 (some .int) [(0, 9, 12, 21)]) ∈ WT := wt_of (i := 871) (by decide +kernel) (by decide +kernel)
theorem wd_872 : (Jvm.Cond.methodLink "ThawPointsLaw" 82 ⟨"ThawPoints", "voidIn", "(I)I"⟩) ∈ WT := wt_of (i := 872) (by decide +kernel) (by decide +kernel)
theorem wd_873 : (Jvm.Cond.classLink "ThawPointsLaw" 86 "ThawPointsModel") ∈ WT := wt_of (i := 873) (by decide +kernel) (by decide +kernel)
theorem wd_874 : (Jvm.Cond.instantiable "ThawPointsModel" 15) ∈ WT := wt_of (i := 874) (by decide +kernel) (by decide +kernel)
theorem wd_875 : (Jvm.Cond.methodLink "ThawPointsLaw" 88 ⟨"ThawPointsModel", "<init>", "()V"⟩) ∈ WT := wt_of (i := 875) (by decide +kernel) (by decide +kernel)
theorem wd_876 : (Jvm.Cond.instanceMethod ⟨"ThawPointsModel", "<init>", "()V"⟩) ∈ WT := wt_of (i := 876) (by decide +kernel) (by decide +kernel)
theorem wd_877 : (Jvm.Cond.code ⟨"ThawPointsModel", "<init>", "()V"⟩ prog_8_method_1_code 1 none) ∈ WT := wt_of (i := 877) (by decide +kernel) (by decide +kernel)
theorem wd_878 : (Jvm.Cond.methodLink "ThawPointsModel" 1 ⟨"java/lang/Object", "<init>", "()V"⟩) ∈ WT := wt_of (i := 878) (by decide +kernel) (by decide +kernel)
theorem wd_879 : (Jvm.Cond.fieldLink "ThawPointsModel" 22 "ThawPointsModel" "thrown" "I") ∈ WT := wt_of (i := 879) (by decide +kernel) (by decide +kernel)
theorem wd_880 : (Jvm.Cond.fieldLink "ThawPointsModel" 7 "ThawPointsModel" "s" "[I") ∈ WT := wt_of (i := 880) (by decide +kernel) (by decide +kernel)
theorem wd_881 : (Jvm.Cond.fieldLink "ThawPointsModel" 13 "ThawPointsModel" "saved" "[I") ∈ WT := wt_of (i := 881) (by decide +kernel) (by decide +kernel)
theorem wd_882 : (Jvm.Cond.fieldLink "ThawPointsModel" 34 "ThawPointsModel" "savedMany" "I") ∈ WT := wt_of (i := 882) (by decide +kernel) (by decide +kernel)
theorem wd_883 : (Jvm.Cond.fieldLink "ThawPointsModel" 16 "ThawPointsModel" "snapshot" "[I") ∈ WT := wt_of (i := 883) (by decide +kernel) (by decide +kernel)
theorem wd_884 : (Jvm.Cond.fieldLink "ThawPointsModel" 175 "ThawPointsModel" "isKept" "Z") ∈ WT := wt_of (i := 884) (by decide +kernel) (by decide +kernel)
theorem wd_885 : (Jvm.Cond.fieldLink "ThawPointsModel" 19 "ThawPointsModel" "text" "[I") ∈ WT := wt_of (i := 885) (by decide +kernel) (by decide +kernel)
theorem wd_886 : (Jvm.Cond.fieldLink "ThawPointsModel" 127 "ThawPointsModel" "length" "I") ∈ WT := wt_of (i := 886) (by decide +kernel) (by decide +kernel)
theorem wd_887 : (Jvm.Cond.fieldLink "ThawPointsModel" 134 "ThawPointsModel" "spot" "I") ∈ WT := wt_of (i := 887) (by decide +kernel) (by decide +kernel)
theorem wd_888 : (Jvm.Cond.fieldLink "ThawPointsModel" 130 "ThawPointsModel" "isWrong" "Z") ∈ WT := wt_of (i := 888) (by decide +kernel) (by decide +kernel)
theorem wd_889 : (Jvm.Cond.fieldLink "ThawPointsModel" 146 "ThawPointsModel" "letter" "I") ∈ WT := wt_of (i := 889) (by decide +kernel) (by decide +kernel)
theorem wd_890 : (Jvm.Cond.fieldLink "ThawPointsModel" 152 "ThawPointsModel" "first" "I") ∈ WT := wt_of (i := 890) (by decide +kernel) (by decide +kernel)
theorem wd_891 : (Jvm.Cond.fieldLink "ThawPointsModel" 155 "ThawPointsModel" "second" "I") ∈ WT := wt_of (i := 891) (by decide +kernel) (by decide +kernel)
theorem wd_892 : (Jvm.Cond.fieldLink "ThawPointsModel" 158 "ThawPointsModel" "third" "I") ∈ WT := wt_of (i := 892) (by decide +kernel) (by decide +kernel)
theorem wd_893 : (Jvm.Cond.fieldLink "ThawPointsModel" 220 "ThawPointsModel" "digested" "J") ∈ WT := wt_of (i := 893) (by decide +kernel) (by decide +kernel)
theorem wd_894 : (Jvm.Cond.lays "ThawPointsModel" "ThawPointsModel" "thrown" "I") ∈ WT := wt_of (i := 894) (by decide +kernel) (by decide +kernel)
theorem wd_896 : (Jvm.Cond.laysFinal "ThawPointsModel" "ThawPointsModel" "s" "[I") ∈ WT := wt_of (i := 896) (by decide +kernel) (by decide +kernel)
theorem wd_898 : (Jvm.Cond.laysFinal "ThawPointsModel" "ThawPointsModel" "saved" "[I") ∈ WT := wt_of (i := 898) (by decide +kernel) (by decide +kernel)
theorem wd_900 : (Jvm.Cond.lays "ThawPointsModel" "ThawPointsModel" "savedMany" "I") ∈ WT := wt_of (i := 900) (by decide +kernel) (by decide +kernel)
theorem wd_902 : (Jvm.Cond.laysFinal "ThawPointsModel" "ThawPointsModel" "snapshot" "[I") ∈ WT := wt_of (i := 902) (by decide +kernel) (by decide +kernel)
theorem wd_904 : (Jvm.Cond.lays "ThawPointsModel" "ThawPointsModel" "isKept" "Z") ∈ WT := wt_of (i := 904) (by decide +kernel) (by decide +kernel)
theorem wd_906 : (Jvm.Cond.laysFinal "ThawPointsModel" "ThawPointsModel" "text" "[I") ∈ WT := wt_of (i := 906) (by decide +kernel) (by decide +kernel)
theorem wd_908 : (Jvm.Cond.lays "ThawPointsModel" "ThawPointsModel" "length" "I") ∈ WT := wt_of (i := 908) (by decide +kernel) (by decide +kernel)
theorem wd_910 : (Jvm.Cond.lays "ThawPointsModel" "ThawPointsModel" "spot" "I") ∈ WT := wt_of (i := 910) (by decide +kernel) (by decide +kernel)
theorem wd_912 : (Jvm.Cond.lays "ThawPointsModel" "ThawPointsModel" "isWrong" "Z") ∈ WT := wt_of (i := 912) (by decide +kernel) (by decide +kernel)
theorem wd_914 : (Jvm.Cond.lays "ThawPointsModel" "ThawPointsModel" "letter" "I") ∈ WT := wt_of (i := 914) (by decide +kernel) (by decide +kernel)
theorem wd_916 : (Jvm.Cond.lays "ThawPointsModel" "ThawPointsModel" "first" "I") ∈ WT := wt_of (i := 916) (by decide +kernel) (by decide +kernel)
theorem wd_918 : (Jvm.Cond.lays "ThawPointsModel" "ThawPointsModel" "second" "I") ∈ WT := wt_of (i := 918) (by decide +kernel) (by decide +kernel)
theorem wd_920 : (Jvm.Cond.lays "ThawPointsModel" "ThawPointsModel" "third" "I") ∈ WT := wt_of (i := 920) (by decide +kernel) (by decide +kernel)
theorem wd_922 : (Jvm.Cond.lays "ThawPointsModel" "ThawPointsModel" "digested" "J") ∈ WT := wt_of (i := 922) (by decide +kernel) (by decide +kernel)
theorem wd_925 : (Jvm.Cond.methodLink "ThawPointsLaw" 95 ⟨"ThawPointsModel", "thrown", "()I"⟩) ∈ WT := wt_of (i := 925) (by decide +kernel) (by decide +kernel)
theorem wd_926 : (Jvm.Cond.instanceMethod ⟨"ThawPointsModel", "thrown", "()I"⟩) ∈ WT := wt_of (i := 926) (by decide +kernel) (by decide +kernel)
theorem wd_927 : (Jvm.Cond.selects "ThawPointsModel" ⟨"ThawPointsModel", "thrown", "()I"⟩ ⟨"ThawPointsModel", "thrown", "()I"⟩) ∈ WT := wt_of (i := 927) (by decide +kernel) (by decide +kernel)
theorem wd_928 : (Jvm.Cond.code ⟨"ThawPointsModel", "thrown", "()I"⟩ prog_8_method_2_code 1 (some .int)) ∈ WT := wt_of (i := 928) (by decide +kernel) (by decide +kernel)
theorem wd_929 : (Jvm.Cond.methodLink "ThawPointsLaw" 94 ⟨"ThawPointsModel", "make", "(III)I"⟩) ∈ WT := wt_of (i := 929) (by decide +kernel) (by decide +kernel)
theorem wd_930 : (Jvm.Cond.instanceMethod ⟨"ThawPointsModel", "make", "(III)I"⟩) ∈ WT := wt_of (i := 930) (by decide +kernel) (by decide +kernel)
theorem wd_931 : (Jvm.Cond.selects "ThawPointsModel" ⟨"ThawPointsModel", "make", "(III)I"⟩ ⟨"ThawPointsModel", "make", "(III)I"⟩) ∈ WT := wt_of (i := 931) (by decide +kernel) (by decide +kernel)
theorem wd_932 : (Jvm.Cond.code ⟨"ThawPointsModel", "make", "(III)I"⟩ prog_8_method_33_code 5 (some .int)) ∈ WT := wt_of (i := 932) (by decide +kernel) (by decide +kernel)
theorem wd_933 : (Jvm.Cond.methodLink "ThawPointsModel" 26 ⟨"ThawPointsModel", "in", "(III)Z"⟩) ∈ WT := wt_of (i := 933) (by decide +kernel) (by decide +kernel)
theorem wd_934 : (Jvm.Cond.static ⟨"ThawPointsModel", "in", "(III)Z"⟩) ∈ WT := wt_of (i := 934) (by decide +kernel) (by decide +kernel)
theorem wd_935 : (Jvm.Cond.code ⟨"ThawPointsModel", "in", "(III)Z"⟩ prog_8_method_3_code 3 (some .boolean)) ∈ WT := wt_of (i := 935) (by decide +kernel) (by decide +kernel)
theorem wd_936 : (Jvm.Cond.methodLink "ThawPointsModel" 87 ⟨"ThawPointsModel", "holds", "(I)Z"⟩) ∈ WT := wt_of (i := 936) (by decide +kernel) (by decide +kernel)
theorem wd_938 : (Jvm.Cond.instanceMethod ⟨"ThawPointsModel", "holds", "(I)Z"⟩) ∈ WT := wt_of (i := 938) (by decide +kernel) (by decide +kernel)
theorem wd_939 : (Jvm.Cond.code ⟨"ThawPointsModel", "holds", "(I)Z"⟩ prog_8_method_4_code 2 (some .boolean)) ∈ WT := wt_of (i := 939) (by decide +kernel) (by decide +kernel)
theorem wd_940 : (Jvm.Cond.methodLink "ThawPointsModel" 90 ⟨"ThawPointsModel", "save", "()V"⟩) ∈ WT := wt_of (i := 940) (by decide +kernel) (by decide +kernel)
theorem wd_942 : (Jvm.Cond.instanceMethod ⟨"ThawPointsModel", "save", "()V"⟩) ∈ WT := wt_of (i := 942) (by decide +kernel) (by decide +kernel)
theorem wd_943 : (Jvm.Cond.code ⟨"ThawPointsModel", "save", "()V"⟩ prog_8_method_11_code 2 none) ∈ WT := wt_of (i := 943) (by decide +kernel) (by decide +kernel)
theorem wd_944 : (Jvm.Cond.methodLink "ThawPointsModel" 93 ⟨"ThawPointsModel", "makes", "(III)I"⟩) ∈ WT := wt_of (i := 944) (by decide +kernel) (by decide +kernel)
theorem wd_946 : (Jvm.Cond.instanceMethod ⟨"ThawPointsModel", "makes", "(III)I"⟩) ∈ WT := wt_of (i := 946) (by decide +kernel) (by decide +kernel)
theorem wd_947 : (Jvm.Cond.code ⟨"ThawPointsModel", "makes", "(III)I"⟩ prog_8_method_30_code 6 (some .int)) ∈ WT := wt_of (i := 947) (by decide +kernel) (by decide +kernel)
theorem wd_948 : (Jvm.Cond.methodLink "ThawPointsModel" 30 ⟨"ThawPointsModel", "of", "(II)I"⟩) ∈ WT := wt_of (i := 948) (by decide +kernel) (by decide +kernel)
theorem wd_949 : (Jvm.Cond.static ⟨"ThawPointsModel", "of", "(II)I"⟩) ∈ WT := wt_of (i := 949) (by decide +kernel) (by decide +kernel)
theorem wd_950 : (Jvm.Cond.code ⟨"ThawPointsModel", "of", "(II)I"⟩ prog_8_method_8_code 2 (some .int)) ∈ WT := wt_of (i := 950) (by decide +kernel) (by decide +kernel)
theorem wd_951 : (Jvm.Cond.methodLink "ThawPointsLaw" 101 ⟨"ThawPointsModel", "breakOne", "(I)I"⟩) ∈ WT := wt_of (i := 951) (by decide +kernel) (by decide +kernel)
theorem wd_952 : (Jvm.Cond.instanceMethod ⟨"ThawPointsModel", "breakOne", "(I)I"⟩) ∈ WT := wt_of (i := 952) (by decide +kernel) (by decide +kernel)
theorem wd_953 : (Jvm.Cond.selects "ThawPointsModel" ⟨"ThawPointsModel", "breakOne", "(I)I"⟩ ⟨"ThawPointsModel", "breakOne", "(I)I"⟩) ∈ WT := wt_of (i := 953) (by decide +kernel) (by decide +kernel)
theorem wd_954 : (Jvm.Cond.code ⟨"ThawPointsModel", "breakOne", "(I)I"⟩ prog_8_method_34_code 4 (some .int)) ∈ WT := wt_of (i := 954) (by decide +kernel) (by decide +kernel)
theorem wd_955 : (Jvm.Cond.methodLink "ThawPointsModel" 96 ⟨"ThawPointsModel", "isThere", "(I)Z"⟩) ∈ WT := wt_of (i := 955) (by decide +kernel) (by decide +kernel)
theorem wd_957 : (Jvm.Cond.instanceMethod ⟨"ThawPointsModel", "isThere", "(I)Z"⟩) ∈ WT := wt_of (i := 957) (by decide +kernel) (by decide +kernel)
theorem wd_958 : (Jvm.Cond.code ⟨"ThawPointsModel", "isThere", "(I)Z"⟩ prog_8_method_5_code 2 (some .boolean)) ∈ WT := wt_of (i := 958) (by decide +kernel) (by decide +kernel)
theorem wd_959 : (Jvm.Cond.methodLink "ThawPointsModel" 37 ⟨"ThawPointsModel", "get", "(II)I"⟩) ∈ WT := wt_of (i := 959) (by decide +kernel) (by decide +kernel)
theorem wd_961 : (Jvm.Cond.instanceMethod ⟨"ThawPointsModel", "get", "(II)I"⟩) ∈ WT := wt_of (i := 961) (by decide +kernel) (by decide +kernel)
theorem wd_962 : (Jvm.Cond.code ⟨"ThawPointsModel", "get", "(II)I"⟩ prog_8_method_9_code 3 (some .int)) ∈ WT := wt_of (i := 962) (by decide +kernel) (by decide +kernel)
theorem wd_963 : (Jvm.Cond.methodLink "ThawPointsLaw" 105 ⟨"ThawPointsModel", "bath", "(II)I"⟩) ∈ WT := wt_of (i := 963) (by decide +kernel) (by decide +kernel)
theorem wd_964 : (Jvm.Cond.instanceMethod ⟨"ThawPointsModel", "bath", "(II)I"⟩) ∈ WT := wt_of (i := 964) (by decide +kernel) (by decide +kernel)
theorem wd_965 : (Jvm.Cond.selects "ThawPointsModel" ⟨"ThawPointsModel", "bath", "(II)I"⟩ ⟨"ThawPointsModel", "bath", "(II)I"⟩) ∈ WT := wt_of (i := 965) (by decide +kernel) (by decide +kernel)
theorem wd_966 : (Jvm.Cond.code ⟨"ThawPointsModel", "bath", "(II)I"⟩ prog_8_method_35_code 3 (some .int)) ∈ WT := wt_of (i := 966) (by decide +kernel) (by decide +kernel)
theorem wd_967 : (Jvm.Cond.methodLink "ThawPointsModel" 99 ⟨"ThawPointsModel", "isBath", "(I)Z"⟩) ∈ WT := wt_of (i := 967) (by decide +kernel) (by decide +kernel)
theorem wd_968 : (Jvm.Cond.static ⟨"ThawPointsModel", "isBath", "(I)Z"⟩) ∈ WT := wt_of (i := 968) (by decide +kernel) (by decide +kernel)
theorem wd_969 : (Jvm.Cond.code ⟨"ThawPointsModel", "isBath", "(I)Z"⟩ prog_8_method_6_code 1 (some .boolean)) ∈ WT := wt_of (i := 969) (by decide +kernel) (by decide +kernel)
theorem wd_970 : (Jvm.Cond.methodLink "ThawPointsModel" 102 ⟨"ThawPointsModel", "isDegree", "(I)Z"⟩) ∈ WT := wt_of (i := 970) (by decide +kernel) (by decide +kernel)
theorem wd_971 : (Jvm.Cond.static ⟨"ThawPointsModel", "isDegree", "(I)Z"⟩) ∈ WT := wt_of (i := 971) (by decide +kernel) (by decide +kernel)
theorem wd_972 : (Jvm.Cond.code ⟨"ThawPointsModel", "isDegree", "(I)Z"⟩ prog_8_method_7_code 1 (some .boolean)) ∈ WT := wt_of (i := 972) (by decide +kernel) (by decide +kernel)
theorem wd_973 : (Jvm.Cond.methodLink "ThawPointsModel" 105 ⟨"ThawPointsModel", "fills", "(II)I"⟩) ∈ WT := wt_of (i := 973) (by decide +kernel) (by decide +kernel)
theorem wd_975 : (Jvm.Cond.instanceMethod ⟨"ThawPointsModel", "fills", "(II)I"⟩) ∈ WT := wt_of (i := 975) (by decide +kernel) (by decide +kernel)
theorem wd_976 : (Jvm.Cond.code ⟨"ThawPointsModel", "fills", "(II)I"⟩ prog_8_method_32_code 4 (some .int)) ∈ WT := wt_of (i := 976) (by decide +kernel) (by decide +kernel)
theorem wd_977 : (Jvm.Cond.methodLink "ThawPointsLaw" 108 ⟨"ThawPointsModel", "pass", "(I)I"⟩) ∈ WT := wt_of (i := 977) (by decide +kernel) (by decide +kernel)
theorem wd_978 : (Jvm.Cond.instanceMethod ⟨"ThawPointsModel", "pass", "(I)I"⟩) ∈ WT := wt_of (i := 978) (by decide +kernel) (by decide +kernel)
theorem wd_979 : (Jvm.Cond.selects "ThawPointsModel" ⟨"ThawPointsModel", "pass", "(I)I"⟩ ⟨"ThawPointsModel", "pass", "(I)I"⟩) ∈ WT := wt_of (i := 979) (by decide +kernel) (by decide +kernel)
theorem wd_980 : (Jvm.Cond.code ⟨"ThawPointsModel", "pass", "(I)I"⟩ prog_8_method_36_code 2 (some .int)) ∈ WT := wt_of (i := 980) (by decide +kernel) (by decide +kernel)
theorem wd_981 : (Jvm.Cond.methodLink "ThawPointsModel" 108 ⟨"ThawPointsModel", "passes", "(I)I"⟩) ∈ WT := wt_of (i := 981) (by decide +kernel) (by decide +kernel)
theorem wd_983 : (Jvm.Cond.instanceMethod ⟨"ThawPointsModel", "passes", "(I)I"⟩) ∈ WT := wt_of (i := 983) (by decide +kernel) (by decide +kernel)
theorem wd_984 : (Jvm.Cond.code ⟨"ThawPointsModel", "passes", "(I)I"⟩ prog_8_method_31_code 4 (some .int)) ∈ WT := wt_of (i := 984) (by decide +kernel) (by decide +kernel)
theorem wd_985 : (Jvm.Cond.methodLink "ThawPointsLaw" 111 ⟨"ThawPointsModel", "set", "(II)I"⟩) ∈ WT := wt_of (i := 985) (by decide +kernel) (by decide +kernel)
theorem wd_986 : (Jvm.Cond.instanceMethod ⟨"ThawPointsModel", "set", "(II)I"⟩) ∈ WT := wt_of (i := 986) (by decide +kernel) (by decide +kernel)
theorem wd_987 : (Jvm.Cond.selects "ThawPointsModel" ⟨"ThawPointsModel", "set", "(II)I"⟩ ⟨"ThawPointsModel", "set", "(II)I"⟩) ∈ WT := wt_of (i := 987) (by decide +kernel) (by decide +kernel)
theorem wd_988 : (Jvm.Cond.code ⟨"ThawPointsModel", "set", "(II)I"⟩ prog_8_method_38_code 4 (some .int)) ∈ WT := wt_of (i := 988) (by decide +kernel) (by decide +kernel)
theorem wd_989 : (Jvm.Cond.methodLink "ThawPointsModel" 112 ⟨"ThawPointsModel", "greatest", "(I)I"⟩) ∈ WT := wt_of (i := 989) (by decide +kernel) (by decide +kernel)
theorem wd_990 : (Jvm.Cond.static ⟨"ThawPointsModel", "greatest", "(I)I"⟩) ∈ WT := wt_of (i := 990) (by decide +kernel) (by decide +kernel)
theorem wd_991 : (Jvm.Cond.code ⟨"ThawPointsModel", "greatest", "(I)I"⟩ prog_8_method_37_code 1 (some .int)) ∈ WT := wt_of (i := 991) (by decide +kernel) (by decide +kernel)
theorem wd_992 : (Jvm.Cond.methodLink "ThawPointsLaw" 114 ⟨"ThawPointsModel", "measure", "(II)I"⟩) ∈ WT := wt_of (i := 992) (by decide +kernel) (by decide +kernel)
theorem wd_993 : (Jvm.Cond.instanceMethod ⟨"ThawPointsModel", "measure", "(II)I"⟩) ∈ WT := wt_of (i := 993) (by decide +kernel) (by decide +kernel)
theorem wd_994 : (Jvm.Cond.selects "ThawPointsModel" ⟨"ThawPointsModel", "measure", "(II)I"⟩ ⟨"ThawPointsModel", "measure", "(II)I"⟩) ∈ WT := wt_of (i := 994) (by decide +kernel) (by decide +kernel)
theorem wd_995 : (Jvm.Cond.code ⟨"ThawPointsModel", "measure", "(II)I"⟩ prog_8_method_39_code 3 (some .int)) ∈ WT := wt_of (i := 995) (by decide +kernel) (by decide +kernel)
theorem wd_996 : (Jvm.Cond.methodLink "ThawPointsModel" 115 ⟨"ThawPointsModel", "hindrance", "(II)I"⟩) ∈ WT := wt_of (i := 996) (by decide +kernel) (by decide +kernel)
theorem wd_998 : (Jvm.Cond.instanceMethod ⟨"ThawPointsModel", "hindrance", "(II)I"⟩) ∈ WT := wt_of (i := 998) (by decide +kernel) (by decide +kernel)
theorem wd_999 : (Jvm.Cond.code ⟨"ThawPointsModel", "hindrance", "(II)I"⟩ prog_8_method_16_code 4 (some .int)) ∈ WT := wt_of (i := 999) (by decide +kernel) (by decide +kernel)
theorem wd_1000 : (Jvm.Cond.methodLink "ThawPointsModel" 47 ⟨"ThawPointsModel", "pointAt", "(II)I"⟩) ∈ WT := wt_of (i := 1000) (by decide +kernel) (by decide +kernel)
theorem wd_1002 : (Jvm.Cond.instanceMethod ⟨"ThawPointsModel", "pointAt", "(II)I"⟩) ∈ WT := wt_of (i := 1002) (by decide +kernel) (by decide +kernel)
theorem wd_1003 : (Jvm.Cond.code ⟨"ThawPointsModel", "pointAt", "(II)I"⟩ prog_8_method_14_code 5 (some .int)) ∈ WT := wt_of (i := 1003) (by decide +kernel) (by decide +kernel)
theorem wd_1004 : (Jvm.Cond.methodLink "ThawPointsModel" 43 ⟨"ThawPointsModel", "pointOf", "(III)I"⟩) ∈ WT := wt_of (i := 1004) (by decide +kernel) (by decide +kernel)
theorem wd_1006 : (Jvm.Cond.instanceMethod ⟨"ThawPointsModel", "pointOf", "(III)I"⟩) ∈ WT := wt_of (i := 1006) (by decide +kernel) (by decide +kernel)
theorem wd_1007 : (Jvm.Cond.code ⟨"ThawPointsModel", "pointOf", "(III)I"⟩ prog_8_method_10_code 4 (some .int)) ∈ WT := wt_of (i := 1007) (by decide +kernel) (by decide +kernel)
theorem wd_1008 : (Jvm.Cond.methodLink "ThawPointsModel" 50 ⟨"ThawPointsModel", "readingOf", "(II)I"⟩) ∈ WT := wt_of (i := 1008) (by decide +kernel) (by decide +kernel)
theorem wd_1010 : (Jvm.Cond.instanceMethod ⟨"ThawPointsModel", "readingOf", "(II)I"⟩) ∈ WT := wt_of (i := 1010) (by decide +kernel) (by decide +kernel)
theorem wd_1011 : (Jvm.Cond.code ⟨"ThawPointsModel", "readingOf", "(II)I"⟩ prog_8_method_13_code 3 (some .int)) ∈ WT := wt_of (i := 1011) (by decide +kernel) (by decide +kernel)
theorem wd_1012 : (Jvm.Cond.methodLink "ThawPointsModel" 40 ⟨"ThawPointsModel", "divided", "(II)I"⟩) ∈ WT := wt_of (i := 1012) (by decide +kernel) (by decide +kernel)
theorem wd_1013 : (Jvm.Cond.static ⟨"ThawPointsModel", "divided", "(II)I"⟩) ∈ WT := wt_of (i := 1013) (by decide +kernel) (by decide +kernel)
theorem wd_1014 : (Jvm.Cond.code ⟨"ThawPointsModel", "divided", "(II)I"⟩ prog_8_method_12_code 3 (some .int)) ∈ WT := wt_of (i := 1014) (by decide +kernel) (by decide +kernel)
theorem wd_1015 : (Jvm.Cond.methodLink "ThawPointsModel" 53 ⟨"ThawPointsModel", "crosses", "(III)Z"⟩) ∈ WT := wt_of (i := 1015) (by decide +kernel) (by decide +kernel)
theorem wd_1017 : (Jvm.Cond.instanceMethod ⟨"ThawPointsModel", "crosses", "(III)Z"⟩) ∈ WT := wt_of (i := 1017) (by decide +kernel) (by decide +kernel)
theorem wd_1018 : (Jvm.Cond.code ⟨"ThawPointsModel", "crosses", "(III)Z"⟩ prog_8_method_15_code 8 (some .boolean)) ∈ WT := wt_of (i := 1018) (by decide +kernel) (by decide +kernel)
theorem wd_1019 : (Jvm.Cond.methodLink "ThawPointsModel" 118 ⟨"ThawPointsModel", "measures", "(II)I"⟩) ∈ WT := wt_of (i := 1019) (by decide +kernel) (by decide +kernel)
theorem wd_1021 : (Jvm.Cond.instanceMethod ⟨"ThawPointsModel", "measures", "(II)I"⟩) ∈ WT := wt_of (i := 1021) (by decide +kernel) (by decide +kernel)
theorem wd_1022 : (Jvm.Cond.code ⟨"ThawPointsModel", "measures", "(II)I"⟩ prog_8_method_18_code 6 (some .int)) ∈ WT := wt_of (i := 1022) (by decide +kernel) (by decide +kernel)
theorem wd_1023 : (Jvm.Cond.methodLink "ThawPointsModel" 56 ⟨"ThawPointsModel", "drops", "(II)I"⟩) ∈ WT := wt_of (i := 1023) (by decide +kernel) (by decide +kernel)
theorem wd_1025 : (Jvm.Cond.instanceMethod ⟨"ThawPointsModel", "drops", "(II)I"⟩) ∈ WT := wt_of (i := 1025) (by decide +kernel) (by decide +kernel)
theorem wd_1026 : (Jvm.Cond.code ⟨"ThawPointsModel", "drops", "(II)I"⟩ prog_8_method_17_code 5 (some .int)) ∈ WT := wt_of (i := 1026) (by decide +kernel) (by decide +kernel)
theorem wd_1027 : (Jvm.Cond.methodLink "ThawPointsLaw" 117 ⟨"ThawPointsModel", "forget", "(II)I"⟩) ∈ WT := wt_of (i := 1027) (by decide +kernel) (by decide +kernel)
theorem wd_1028 : (Jvm.Cond.instanceMethod ⟨"ThawPointsModel", "forget", "(II)I"⟩) ∈ WT := wt_of (i := 1028) (by decide +kernel) (by decide +kernel)
theorem wd_1029 : (Jvm.Cond.selects "ThawPointsModel" ⟨"ThawPointsModel", "forget", "(II)I"⟩ ⟨"ThawPointsModel", "forget", "(II)I"⟩) ∈ WT := wt_of (i := 1029) (by decide +kernel) (by decide +kernel)
theorem wd_1030 : (Jvm.Cond.code ⟨"ThawPointsModel", "forget", "(II)I"⟩ prog_8_method_40_code 3 (some .int)) ∈ WT := wt_of (i := 1030) (by decide +kernel) (by decide +kernel)
theorem wd_1031 : (Jvm.Cond.methodLink "ThawPointsLaw" 120 ⟨"ThawPointsModel", "paper", "(I)I"⟩) ∈ WT := wt_of (i := 1031) (by decide +kernel) (by decide +kernel)
theorem wd_1032 : (Jvm.Cond.instanceMethod ⟨"ThawPointsModel", "paper", "(I)I"⟩) ∈ WT := wt_of (i := 1032) (by decide +kernel) (by decide +kernel)
theorem wd_1033 : (Jvm.Cond.selects "ThawPointsModel" ⟨"ThawPointsModel", "paper", "(I)I"⟩ ⟨"ThawPointsModel", "paper", "(I)I"⟩) ∈ WT := wt_of (i := 1033) (by decide +kernel) (by decide +kernel)
theorem wd_1034 : (Jvm.Cond.code ⟨"ThawPointsModel", "paper", "(I)I"⟩ prog_8_method_41_code 2 (some .int)) ∈ WT := wt_of (i := 1034) (by decide +kernel) (by decide +kernel)
theorem wd_1035 : (Jvm.Cond.methodLink "ThawPointsModel" 121 ⟨"ThawPointsModel", "refusal", "(I)I"⟩) ∈ WT := wt_of (i := 1035) (by decide +kernel) (by decide +kernel)
theorem wd_1037 : (Jvm.Cond.instanceMethod ⟨"ThawPointsModel", "refusal", "(I)I"⟩) ∈ WT := wt_of (i := 1037) (by decide +kernel) (by decide +kernel)
theorem wd_1038 : (Jvm.Cond.code ⟨"ThawPointsModel", "refusal", "(I)I"⟩ prog_8_method_28_code 2 (some .int)) ∈ WT := wt_of (i := 1038) (by decide +kernel) (by decide +kernel)
theorem wd_1039 : (Jvm.Cond.methodLink "ThawPointsModel" 80 ⟨"ThawPointsModel", "isOld", "(II)Z"⟩) ∈ WT := wt_of (i := 1039) (by decide +kernel) (by decide +kernel)
theorem wd_1041 : (Jvm.Cond.instanceMethod ⟨"ThawPointsModel", "isOld", "(II)Z"⟩) ∈ WT := wt_of (i := 1041) (by decide +kernel) (by decide +kernel)
theorem wd_1042 : (Jvm.Cond.code ⟨"ThawPointsModel", "isOld", "(II)Z"⟩ prog_8_method_26_code 3 (some .boolean)) ∈ WT := wt_of (i := 1042) (by decide +kernel) (by decide +kernel)
theorem wd_1043 : (Jvm.Cond.methodLink "ThawPointsModel" 74 ⟨"ThawPointsModel", "isValid", "(I)Z"⟩) ∈ WT := wt_of (i := 1043) (by decide +kernel) (by decide +kernel)
theorem wd_1045 : (Jvm.Cond.instanceMethod ⟨"ThawPointsModel", "isValid", "(I)Z"⟩) ∈ WT := wt_of (i := 1045) (by decide +kernel) (by decide +kernel)
theorem wd_1046 : (Jvm.Cond.code ⟨"ThawPointsModel", "isValid", "(I)Z"⟩ prog_8_method_25_code 2 (some .boolean)) ∈ WT := wt_of (i := 1046) (by decide +kernel) (by decide +kernel)
theorem wd_1047 : (Jvm.Cond.methodLink "ThawPointsModel" 84 ⟨"ThawPointsModel", "differs", "(I)Z"⟩) ∈ WT := wt_of (i := 1047) (by decide +kernel) (by decide +kernel)
theorem wd_1049 : (Jvm.Cond.instanceMethod ⟨"ThawPointsModel", "differs", "(I)Z"⟩) ∈ WT := wt_of (i := 1049) (by decide +kernel) (by decide +kernel)
theorem wd_1050 : (Jvm.Cond.code ⟨"ThawPointsModel", "differs", "(I)Z"⟩ prog_8_method_27_code 5 (some .boolean)) ∈ WT := wt_of (i := 1050) (by decide +kernel) (by decide +kernel)
theorem wd_1051 : (Jvm.Cond.methodLink "ThawPointsModel" 77 ⟨"ThawPointsModel", "overlapOf", "(III)I"⟩) ∈ WT := wt_of (i := 1051) (by decide +kernel) (by decide +kernel)
theorem wd_1053 : (Jvm.Cond.instanceMethod ⟨"ThawPointsModel", "overlapOf", "(III)I"⟩) ∈ WT := wt_of (i := 1053) (by decide +kernel) (by decide +kernel)
theorem wd_1054 : (Jvm.Cond.code ⟨"ThawPointsModel", "overlapOf", "(III)I"⟩ prog_8_method_24_code 5 (some .int)) ∈ WT := wt_of (i := 1054) (by decide +kernel) (by decide +kernel)
theorem wd_1055 : (Jvm.Cond.methodLink "ThawPointsModel" 67 ⟨"ThawPointsModel", "areEnough", "(I)Z"⟩) ∈ WT := wt_of (i := 1055) (by decide +kernel) (by decide +kernel)
theorem wd_1057 : (Jvm.Cond.instanceMethod ⟨"ThawPointsModel", "areEnough", "(I)Z"⟩) ∈ WT := wt_of (i := 1057) (by decide +kernel) (by decide +kernel)
theorem wd_1058 : (Jvm.Cond.code ⟨"ThawPointsModel", "areEnough", "(I)Z"⟩ prog_8_method_23_code 2 (some .boolean)) ∈ WT := wt_of (i := 1058) (by decide +kernel) (by decide +kernel)
theorem wd_1059 : (Jvm.Cond.methodLink "ThawPointsModel" 71 ⟨"ThawPointsModel", "correction", "(II)I"⟩) ∈ WT := wt_of (i := 1059) (by decide +kernel) (by decide +kernel)
theorem wd_1061 : (Jvm.Cond.instanceMethod ⟨"ThawPointsModel", "correction", "(II)I"⟩) ∈ WT := wt_of (i := 1061) (by decide +kernel) (by decide +kernel)
theorem wd_1062 : (Jvm.Cond.code ⟨"ThawPointsModel", "correction", "(II)I"⟩ prog_8_method_22_code 10 (some .int)) ∈ WT := wt_of (i := 1062) (by decide +kernel) (by decide +kernel)
theorem wd_1063 : (Jvm.Cond.methodLink "ThawPointsModel" 64 ⟨"ThawPointsModel", "ranked", "(II)I"⟩) ∈ WT := wt_of (i := 1063) (by decide +kernel) (by decide +kernel)
theorem wd_1065 : (Jvm.Cond.instanceMethod ⟨"ThawPointsModel", "ranked", "(II)I"⟩) ∈ WT := wt_of (i := 1065) (by decide +kernel) (by decide +kernel)
theorem wd_1066 : (Jvm.Cond.code ⟨"ThawPointsModel", "ranked", "(II)I"⟩ prog_8_method_21_code 7 (some .int)) ∈ WT := wt_of (i := 1066) (by decide +kernel) (by decide +kernel)
theorem wd_1067 : (Jvm.Cond.methodLink "ThawPointsModel" 124 ⟨"ThawPointsModel", "seals", "(I)I"⟩) ∈ WT := wt_of (i := 1067) (by decide +kernel) (by decide +kernel)
theorem wd_1069 : (Jvm.Cond.instanceMethod ⟨"ThawPointsModel", "seals", "(I)I"⟩) ∈ WT := wt_of (i := 1069) (by decide +kernel) (by decide +kernel)
theorem wd_1070 : (Jvm.Cond.code ⟨"ThawPointsModel", "seals", "(I)I"⟩ prog_8_method_29_code 2 (some .int)) ∈ WT := wt_of (i := 1070) (by decide +kernel) (by decide +kernel)
theorem wd_1071 : (Jvm.Cond.methodLink "ThawPointsLaw" 123 ⟨"ThawPointsModel", "append", "(I)I"⟩) ∈ WT := wt_of (i := 1071) (by decide +kernel) (by decide +kernel)
theorem wd_1072 : (Jvm.Cond.instanceMethod ⟨"ThawPointsModel", "append", "(I)I"⟩) ∈ WT := wt_of (i := 1072) (by decide +kernel) (by decide +kernel)
theorem wd_1073 : (Jvm.Cond.selects "ThawPointsModel" ⟨"ThawPointsModel", "append", "(I)I"⟩ ⟨"ThawPointsModel", "append", "(I)I"⟩) ∈ WT := wt_of (i := 1073) (by decide +kernel) (by decide +kernel)
theorem wd_1074 : (Jvm.Cond.code ⟨"ThawPointsModel", "append", "(I)I"⟩ prog_8_method_42_code 2 (some .int)) ∈ WT := wt_of (i := 1074) (by decide +kernel) (by decide +kernel)
theorem wd_1075 : (Jvm.Cond.methodLink "ThawPointsLaw" 127 ⟨"ThawPointsModel", "clearBuffer", "()I"⟩) ∈ WT := wt_of (i := 1075) (by decide +kernel) (by decide +kernel)
theorem wd_1076 : (Jvm.Cond.instanceMethod ⟨"ThawPointsModel", "clearBuffer", "()I"⟩) ∈ WT := wt_of (i := 1076) (by decide +kernel) (by decide +kernel)
theorem wd_1077 : (Jvm.Cond.selects "ThawPointsModel" ⟨"ThawPointsModel", "clearBuffer", "()I"⟩ ⟨"ThawPointsModel", "clearBuffer", "()I"⟩) ∈ WT := wt_of (i := 1077) (by decide +kernel) (by decide +kernel)
theorem wd_1078 : (Jvm.Cond.code ⟨"ThawPointsModel", "clearBuffer", "()I"⟩ prog_8_method_43_code 2 (some .int)) ∈ WT := wt_of (i := 1078) (by decide +kernel) (by decide +kernel)
theorem wd_1079 : (Jvm.Cond.methodLink "ThawPointsLaw" 131 ⟨"ThawPointsModel", "firstError", "()I"⟩) ∈ WT := wt_of (i := 1079) (by decide +kernel) (by decide +kernel)
theorem wd_1080 : (Jvm.Cond.instanceMethod ⟨"ThawPointsModel", "firstError", "()I"⟩) ∈ WT := wt_of (i := 1080) (by decide +kernel) (by decide +kernel)
theorem wd_1081 : (Jvm.Cond.selects "ThawPointsModel" ⟨"ThawPointsModel", "firstError", "()I"⟩ ⟨"ThawPointsModel", "firstError", "()I"⟩) ∈ WT := wt_of (i := 1081) (by decide +kernel) (by decide +kernel)
theorem wd_1082 : (Jvm.Cond.code ⟨"ThawPointsModel", "firstError", "()I"⟩ prog_8_method_52_code 2 (some .int)) ∈ WT := wt_of (i := 1082) (by decide +kernel) (by decide +kernel)
theorem wd_1083 : (Jvm.Cond.methodLink "ThawPointsModel" 171 ⟨"ThawPointsModel", "goesThrough", "(Z)I"⟩) ∈ WT := wt_of (i := 1083) (by decide +kernel) (by decide +kernel)
theorem wd_1085 : (Jvm.Cond.instanceMethod ⟨"ThawPointsModel", "goesThrough", "(Z)I"⟩) ∈ WT := wt_of (i := 1085) (by decide +kernel) (by decide +kernel)
theorem wd_1086 : (Jvm.Cond.code ⟨"ThawPointsModel", "goesThrough", "(Z)I"⟩ prog_8_method_51_code 7 (some .int)) ∈ WT := wt_of (i := 1086) (by decide +kernel) (by decide +kernel)
theorem wd_1087 : (Jvm.Cond.methodLink "ThawPointsModel" 161 ⟨"ThawPointsModel", "readPart", "()V"⟩) ∈ WT := wt_of (i := 1087) (by decide +kernel) (by decide +kernel)
theorem wd_1089 : (Jvm.Cond.instanceMethod ⟨"ThawPointsModel", "readPart", "()V"⟩) ∈ WT := wt_of (i := 1089) (by decide +kernel) (by decide +kernel)
theorem wd_1090 : (Jvm.Cond.code ⟨"ThawPointsModel", "readPart", "()V"⟩ prog_8_method_48_code 2 none) ∈ WT := wt_of (i := 1090) (by decide +kernel) (by decide +kernel)
theorem wd_1091 : (Jvm.Cond.methodLink "ThawPointsModel" 149 ⟨"ThawPointsModel", "signed", "(II)I"⟩) ∈ WT := wt_of (i := 1091) (by decide +kernel) (by decide +kernel)
theorem wd_1093 : (Jvm.Cond.instanceMethod ⟨"ThawPointsModel", "signed", "(II)I"⟩) ∈ WT := wt_of (i := 1093) (by decide +kernel) (by decide +kernel)
theorem wd_1094 : (Jvm.Cond.code ⟨"ThawPointsModel", "signed", "(II)I"⟩ prog_8_method_47_code 3 (some .int)) ∈ WT := wt_of (i := 1094) (by decide +kernel) (by decide +kernel)
theorem wd_1095 : (Jvm.Cond.methodLink "ThawPointsModel" 137 ⟨"ThawPointsModel", "isNext", "(II)Z"⟩) ∈ WT := wt_of (i := 1095) (by decide +kernel) (by decide +kernel)
theorem wd_1097 : (Jvm.Cond.instanceMethod ⟨"ThawPointsModel", "isNext", "(II)Z"⟩) ∈ WT := wt_of (i := 1097) (by decide +kernel) (by decide +kernel)
theorem wd_1098 : (Jvm.Cond.code ⟨"ThawPointsModel", "isNext", "(II)Z"⟩ prog_8_method_44_code 3 (some .boolean)) ∈ WT := wt_of (i := 1098) (by decide +kernel) (by decide +kernel)
theorem wd_1099 : (Jvm.Cond.methodLink "ThawPointsModel" 143 ⟨"ThawPointsModel", "number", "(II)I"⟩) ∈ WT := wt_of (i := 1099) (by decide +kernel) (by decide +kernel)
theorem wd_1101 : (Jvm.Cond.instanceMethod ⟨"ThawPointsModel", "number", "(II)I"⟩) ∈ WT := wt_of (i := 1101) (by decide +kernel) (by decide +kernel)
theorem wd_1102 : (Jvm.Cond.code ⟨"ThawPointsModel", "number", "(II)I"⟩ prog_8_method_46_code 4 (some .int)) ∈ WT := wt_of (i := 1102) (by decide +kernel) (by decide +kernel)
theorem wd_1103 : (Jvm.Cond.methodLink "ThawPointsModel" 140 ⟨"ThawPointsModel", "takes", "(II)I"⟩) ∈ WT := wt_of (i := 1103) (by decide +kernel) (by decide +kernel)
theorem wd_1105 : (Jvm.Cond.instanceMethod ⟨"ThawPointsModel", "takes", "(II)I"⟩) ∈ WT := wt_of (i := 1105) (by decide +kernel) (by decide +kernel)
theorem wd_1106 : (Jvm.Cond.code ⟨"ThawPointsModel", "takes", "(II)I"⟩ prog_8_method_45_code 5 (some .int)) ∈ WT := wt_of (i := 1106) (by decide +kernel) (by decide +kernel)
theorem wd_1107 : (Jvm.Cond.methodLink "ThawPointsModel" 164 ⟨"ThawPointsModel", "reasonOfPart", "()I"⟩) ∈ WT := wt_of (i := 1107) (by decide +kernel) (by decide +kernel)
theorem wd_1109 : (Jvm.Cond.instanceMethod ⟨"ThawPointsModel", "reasonOfPart", "()I"⟩) ∈ WT := wt_of (i := 1109) (by decide +kernel) (by decide +kernel)
theorem wd_1110 : (Jvm.Cond.code ⟨"ThawPointsModel", "reasonOfPart", "()I"⟩ prog_8_method_49_code 1 (some .int)) ∈ WT := wt_of (i := 1110) (by decide +kernel) (by decide +kernel)
theorem wd_1111 : (Jvm.Cond.methodLink "ThawPointsModel" 168 ⟨"ThawPointsModel", "doesPart", "()I"⟩) ∈ WT := wt_of (i := 1111) (by decide +kernel) (by decide +kernel)
theorem wd_1113 : (Jvm.Cond.instanceMethod ⟨"ThawPointsModel", "doesPart", "()I"⟩) ∈ WT := wt_of (i := 1113) (by decide +kernel) (by decide +kernel)
theorem wd_1114 : (Jvm.Cond.code ⟨"ThawPointsModel", "doesPart", "()I"⟩ prog_8_method_50_code 1 (some .int)) ∈ WT := wt_of (i := 1114) (by decide +kernel) (by decide +kernel)
theorem wd_1115 : (Jvm.Cond.methodLink "ThawPointsLaw" 135 ⟨"ThawPointsModel", "work", "()I"⟩) ∈ WT := wt_of (i := 1115) (by decide +kernel) (by decide +kernel)
theorem wd_1116 : (Jvm.Cond.instanceMethod ⟨"ThawPointsModel", "work", "()I"⟩) ∈ WT := wt_of (i := 1116) (by decide +kernel) (by decide +kernel)
theorem wd_1117 : (Jvm.Cond.selects "ThawPointsModel" ⟨"ThawPointsModel", "work", "()I"⟩ ⟨"ThawPointsModel", "work", "()I"⟩) ∈ WT := wt_of (i := 1117) (by decide +kernel) (by decide +kernel)
theorem wd_1118 : (Jvm.Cond.code ⟨"ThawPointsModel", "work", "()I"⟩ prog_8_method_53_code 2 (some .int)) ∈ WT := wt_of (i := 1118) (by decide +kernel) (by decide +kernel)
theorem wd_1119 : (Jvm.Cond.methodLink "ThawPointsLaw" 138 ⟨"ThawPointsModel", "stopped", "(I)I"⟩) ∈ WT := wt_of (i := 1119) (by decide +kernel) (by decide +kernel)
theorem wd_1120 : (Jvm.Cond.instanceMethod ⟨"ThawPointsModel", "stopped", "(I)I"⟩) ∈ WT := wt_of (i := 1120) (by decide +kernel) (by decide +kernel)
theorem wd_1121 : (Jvm.Cond.selects "ThawPointsModel" ⟨"ThawPointsModel", "stopped", "(I)I"⟩ ⟨"ThawPointsModel", "stopped", "(I)I"⟩) ∈ WT := wt_of (i := 1121) (by decide +kernel) (by decide +kernel)
theorem wd_1122 : (Jvm.Cond.code ⟨"ThawPointsModel", "stopped", "(I)I"⟩ prog_8_method_54_code 2 (some .int)) ∈ WT := wt_of (i := 1122) (by decide +kernel) (by decide +kernel)
theorem wd_1123 : (Jvm.Cond.methodLink "ThawPointsLaw" 141 ⟨"ThawPointsModel", "undo", "()I"⟩) ∈ WT := wt_of (i := 1123) (by decide +kernel) (by decide +kernel)
theorem wd_1124 : (Jvm.Cond.instanceMethod ⟨"ThawPointsModel", "undo", "()I"⟩) ∈ WT := wt_of (i := 1124) (by decide +kernel) (by decide +kernel)
theorem wd_1125 : (Jvm.Cond.selects "ThawPointsModel" ⟨"ThawPointsModel", "undo", "()I"⟩ ⟨"ThawPointsModel", "undo", "()I"⟩) ∈ WT := wt_of (i := 1125) (by decide +kernel) (by decide +kernel)
theorem wd_1126 : (Jvm.Cond.code ⟨"ThawPointsModel", "undo", "()I"⟩ prog_8_method_55_code 2 (some .int)) ∈ WT := wt_of (i := 1126) (by decide +kernel) (by decide +kernel)
theorem wd_1127 : (Jvm.Cond.methodLink "ThawPointsLaw" 145 ⟨"ThawPointsModel", "keep", "()I"⟩) ∈ WT := wt_of (i := 1127) (by decide +kernel) (by decide +kernel)
theorem wd_1128 : (Jvm.Cond.instanceMethod ⟨"ThawPointsModel", "keep", "()I"⟩) ∈ WT := wt_of (i := 1128) (by decide +kernel) (by decide +kernel)
theorem wd_1129 : (Jvm.Cond.selects "ThawPointsModel" ⟨"ThawPointsModel", "keep", "()I"⟩ ⟨"ThawPointsModel", "keep", "()I"⟩) ∈ WT := wt_of (i := 1129) (by decide +kernel) (by decide +kernel)
theorem wd_1130 : (Jvm.Cond.code ⟨"ThawPointsModel", "keep", "()I"⟩ prog_8_method_56_code 2 (some .int)) ∈ WT := wt_of (i := 1130) (by decide +kernel) (by decide +kernel)
theorem wd_1131 : (Jvm.Cond.methodLink "ThawPointsLaw" 148 ⟨"ThawPointsModel", "restore", "()I"⟩) ∈ WT := wt_of (i := 1131) (by decide +kernel) (by decide +kernel)
theorem wd_1132 : (Jvm.Cond.instanceMethod ⟨"ThawPointsModel", "restore", "()I"⟩) ∈ WT := wt_of (i := 1132) (by decide +kernel) (by decide +kernel)
theorem wd_1133 : (Jvm.Cond.selects "ThawPointsModel" ⟨"ThawPointsModel", "restore", "()I"⟩ ⟨"ThawPointsModel", "restore", "()I"⟩) ∈ WT := wt_of (i := 1133) (by decide +kernel) (by decide +kernel)
theorem wd_1134 : (Jvm.Cond.code ⟨"ThawPointsModel", "restore", "()I"⟩ prog_8_method_57_code 2 (some .int)) ∈ WT := wt_of (i := 1134) (by decide +kernel) (by decide +kernel)
theorem wd_1135 : (Jvm.Cond.methodLink "ThawPointsLaw" 151 ⟨"ThawPointsModel", "reads", "(II)I"⟩) ∈ WT := wt_of (i := 1135) (by decide +kernel) (by decide +kernel)
theorem wd_1136 : (Jvm.Cond.instanceMethod ⟨"ThawPointsModel", "reads", "(II)I"⟩) ∈ WT := wt_of (i := 1136) (by decide +kernel) (by decide +kernel)
theorem wd_1137 : (Jvm.Cond.selects "ThawPointsModel" ⟨"ThawPointsModel", "reads", "(II)I"⟩ ⟨"ThawPointsModel", "reads", "(II)I"⟩) ∈ WT := wt_of (i := 1137) (by decide +kernel) (by decide +kernel)
theorem wd_1138 : (Jvm.Cond.code ⟨"ThawPointsModel", "reads", "(II)I"⟩ prog_8_method_58_code 3 (some .int)) ∈ WT := wt_of (i := 1138) (by decide +kernel) (by decide +kernel)
theorem wd_1139 : (Jvm.Cond.methodLink "ThawPointsLaw" 154 ⟨"ThawPointsModel", "corrected", "(III)I"⟩) ∈ WT := wt_of (i := 1139) (by decide +kernel) (by decide +kernel)
theorem wd_1140 : (Jvm.Cond.instanceMethod ⟨"ThawPointsModel", "corrected", "(III)I"⟩) ∈ WT := wt_of (i := 1140) (by decide +kernel) (by decide +kernel)
theorem wd_1141 : (Jvm.Cond.selects "ThawPointsModel" ⟨"ThawPointsModel", "corrected", "(III)I"⟩ ⟨"ThawPointsModel", "corrected", "(III)I"⟩) ∈ WT := wt_of (i := 1141) (by decide +kernel) (by decide +kernel)
theorem wd_1142 : (Jvm.Cond.code ⟨"ThawPointsModel", "corrected", "(III)I"⟩ prog_8_method_60_code 5 (some .int)) ∈ WT := wt_of (i := 1142) (by decide +kernel) (by decide +kernel)
theorem wd_1143 : (Jvm.Cond.methodLink "ThawPointsModel" 179 ⟨"ThawPointsModel", "correctedOr", "(II)I"⟩) ∈ WT := wt_of (i := 1143) (by decide +kernel) (by decide +kernel)
theorem wd_1145 : (Jvm.Cond.instanceMethod ⟨"ThawPointsModel", "correctedOr", "(II)I"⟩) ∈ WT := wt_of (i := 1145) (by decide +kernel) (by decide +kernel)
theorem wd_1146 : (Jvm.Cond.code ⟨"ThawPointsModel", "correctedOr", "(II)I"⟩ prog_8_method_59_code 3 (some .int)) ∈ WT := wt_of (i := 1146) (by decide +kernel) (by decide +kernel)
theorem wd_1147 : (Jvm.Cond.constant "ThawPointsModel" 178 (10000000 : Int32)) ∈ WT := wt_of (i := 1147) (by decide +kernel) (by decide +kernel)
theorem wd_1148 : (Jvm.Cond.methodLink "ThawPointsLaw" 157 ⟨"ThawPointsModel", "thermometer", "(II)I"⟩) ∈ WT := wt_of (i := 1148) (by decide +kernel) (by decide +kernel)
theorem wd_1149 : (Jvm.Cond.instanceMethod ⟨"ThawPointsModel", "thermometer", "(II)I"⟩) ∈ WT := wt_of (i := 1149) (by decide +kernel) (by decide +kernel)
theorem wd_1150 : (Jvm.Cond.selects "ThawPointsModel" ⟨"ThawPointsModel", "thermometer", "(II)I"⟩ ⟨"ThawPointsModel", "thermometer", "(II)I"⟩) ∈ WT := wt_of (i := 1150) (by decide +kernel) (by decide +kernel)
theorem wd_1151 : (Jvm.Cond.code ⟨"ThawPointsModel", "thermometer", "(II)I"⟩ prog_8_method_63_code 3 (some .int)) ∈ WT := wt_of (i := 1151) (by decide +kernel) (by decide +kernel)
theorem wd_1152 : (Jvm.Cond.methodLink "ThawPointsModel" 188 ⟨"ThawPointsModel", "ofGlass", "(II)I"⟩) ∈ WT := wt_of (i := 1152) (by decide +kernel) (by decide +kernel)
theorem wd_1154 : (Jvm.Cond.instanceMethod ⟨"ThawPointsModel", "ofGlass", "(II)I"⟩) ∈ WT := wt_of (i := 1154) (by decide +kernel) (by decide +kernel)
theorem wd_1155 : (Jvm.Cond.code ⟨"ThawPointsModel", "ofGlass", "(II)I"⟩ prog_8_method_62_code 3 (some .int)) ∈ WT := wt_of (i := 1155) (by decide +kernel) (by decide +kernel)
theorem wd_1156 : (Jvm.Cond.methodLink "ThawPointsModel" 182 ⟨"ThawPointsModel", "depth", "(I)I"⟩) ∈ WT := wt_of (i := 1156) (by decide +kernel) (by decide +kernel)
theorem wd_1158 : (Jvm.Cond.instanceMethod ⟨"ThawPointsModel", "depth", "(I)I"⟩) ∈ WT := wt_of (i := 1158) (by decide +kernel) (by decide +kernel)
theorem wd_1159 : (Jvm.Cond.code ⟨"ThawPointsModel", "depth", "(I)I"⟩ prog_8_method_20_code 4 (some .int)) ∈ WT := wt_of (i := 1159) (by decide +kernel) (by decide +kernel)
theorem wd_1160 : (Jvm.Cond.methodLink "ThawPointsModel" 61 ⟨"ThawPointsModel", "depthOf", "(II)I"⟩) ∈ WT := wt_of (i := 1160) (by decide +kernel) (by decide +kernel)
theorem wd_1162 : (Jvm.Cond.instanceMethod ⟨"ThawPointsModel", "depthOf", "(II)I"⟩) ∈ WT := wt_of (i := 1162) (by decide +kernel) (by decide +kernel)
theorem wd_1163 : (Jvm.Cond.code ⟨"ThawPointsModel", "depthOf", "(II)I"⟩ prog_8_method_19_code 10 (some .int)) ∈ WT := wt_of (i := 1163) (by decide +kernel) (by decide +kernel)
theorem wd_1164 : (Jvm.Cond.constant "ThawPointsModel" 59 (-1000000 : Int32)) ∈ WT := wt_of (i := 1164) (by decide +kernel) (by decide +kernel)
theorem wd_1165 : (Jvm.Cond.constant "ThawPointsModel" 60 (1000000 : Int32)) ∈ WT := wt_of (i := 1165) (by decide +kernel) (by decide +kernel)
theorem wd_1166 : (Jvm.Cond.methodLink "ThawPointsModel" 185 ⟨"ThawPointsModel", "widest", "(I)I"⟩) ∈ WT := wt_of (i := 1166) (by decide +kernel) (by decide +kernel)
theorem wd_1168 : (Jvm.Cond.instanceMethod ⟨"ThawPointsModel", "widest", "(I)I"⟩) ∈ WT := wt_of (i := 1168) (by decide +kernel) (by decide +kernel)
theorem wd_1169 : (Jvm.Cond.code ⟨"ThawPointsModel", "widest", "(I)I"⟩ prog_8_method_61_code 5 (some .int)) ∈ WT := wt_of (i := 1169) (by decide +kernel) (by decide +kernel)
theorem wd_1170 : (Jvm.Cond.methodLink "ThawPointsLaw" 160 ⟨"ThawPointsModel", "point", "(III)I"⟩) ∈ WT := wt_of (i := 1170) (by decide +kernel) (by decide +kernel)
theorem wd_1171 : (Jvm.Cond.instanceMethod ⟨"ThawPointsModel", "point", "(III)I"⟩) ∈ WT := wt_of (i := 1171) (by decide +kernel) (by decide +kernel)
theorem wd_1172 : (Jvm.Cond.selects "ThawPointsModel" ⟨"ThawPointsModel", "point", "(III)I"⟩ ⟨"ThawPointsModel", "point", "(III)I"⟩) ∈ WT := wt_of (i := 1172) (by decide +kernel) (by decide +kernel)
theorem wd_1173 : (Jvm.Cond.code ⟨"ThawPointsModel", "point", "(III)I"⟩ prog_8_method_65_code 5 (some .int)) ∈ WT := wt_of (i := 1173) (by decide +kernel) (by decide +kernel)
theorem wd_1174 : (Jvm.Cond.methodLink "ThawPointsModel" 191 ⟨"ThawPointsModel", "ofPoint", "(III)I"⟩) ∈ WT := wt_of (i := 1174) (by decide +kernel) (by decide +kernel)
theorem wd_1176 : (Jvm.Cond.instanceMethod ⟨"ThawPointsModel", "ofPoint", "(III)I"⟩) ∈ WT := wt_of (i := 1176) (by decide +kernel) (by decide +kernel)
theorem wd_1177 : (Jvm.Cond.code ⟨"ThawPointsModel", "ofPoint", "(III)I"⟩ prog_8_method_64_code 5 (some .int)) ∈ WT := wt_of (i := 1177) (by decide +kernel) (by decide +kernel)
theorem wd_1178 : (Jvm.Cond.methodLink "ThawPointsLaw" 163 ⟨"ThawPointsModel", "count", "(I)I"⟩) ∈ WT := wt_of (i := 1178) (by decide +kernel) (by decide +kernel)
theorem wd_1179 : (Jvm.Cond.instanceMethod ⟨"ThawPointsModel", "count", "(I)I"⟩) ∈ WT := wt_of (i := 1179) (by decide +kernel) (by decide +kernel)
theorem wd_1180 : (Jvm.Cond.selects "ThawPointsModel" ⟨"ThawPointsModel", "count", "(I)I"⟩ ⟨"ThawPointsModel", "count", "(I)I"⟩) ∈ WT := wt_of (i := 1180) (by decide +kernel) (by decide +kernel)
theorem wd_1181 : (Jvm.Cond.code ⟨"ThawPointsModel", "count", "(I)I"⟩ prog_8_method_68_code 2 (some .int)) ∈ WT := wt_of (i := 1181) (by decide +kernel) (by decide +kernel)
theorem wd_1182 : (Jvm.Cond.methodLink "ThawPointsModel" 197 ⟨"ThawPointsModel", "counted", "(I)I"⟩) ∈ WT := wt_of (i := 1182) (by decide +kernel) (by decide +kernel)
theorem wd_1184 : (Jvm.Cond.instanceMethod ⟨"ThawPointsModel", "counted", "(I)I"⟩) ∈ WT := wt_of (i := 1184) (by decide +kernel) (by decide +kernel)
theorem wd_1185 : (Jvm.Cond.code ⟨"ThawPointsModel", "counted", "(I)I"⟩ prog_8_method_67_code 2 (some .int)) ∈ WT := wt_of (i := 1185) (by decide +kernel) (by decide +kernel)
theorem wd_1186 : (Jvm.Cond.methodLink "ThawPointsModel" 194 ⟨"ThawPointsModel", "sumOf", "(I)I"⟩) ∈ WT := wt_of (i := 1186) (by decide +kernel) (by decide +kernel)
theorem wd_1188 : (Jvm.Cond.instanceMethod ⟨"ThawPointsModel", "sumOf", "(I)I"⟩) ∈ WT := wt_of (i := 1188) (by decide +kernel) (by decide +kernel)
theorem wd_1189 : (Jvm.Cond.code ⟨"ThawPointsModel", "sumOf", "(I)I"⟩ prog_8_method_66_code 4 (some .int)) ∈ WT := wt_of (i := 1189) (by decide +kernel) (by decide +kernel)
theorem wd_1190 : (Jvm.Cond.methodLink "ThawPointsLaw" 166 ⟨"ThawPointsModel", "whyNot", "(II)I"⟩) ∈ WT := wt_of (i := 1190) (by decide +kernel) (by decide +kernel)
theorem wd_1191 : (Jvm.Cond.instanceMethod ⟨"ThawPointsModel", "whyNot", "(II)I"⟩) ∈ WT := wt_of (i := 1191) (by decide +kernel) (by decide +kernel)
theorem wd_1192 : (Jvm.Cond.selects "ThawPointsModel" ⟨"ThawPointsModel", "whyNot", "(II)I"⟩ ⟨"ThawPointsModel", "whyNot", "(II)I"⟩) ∈ WT := wt_of (i := 1192) (by decide +kernel) (by decide +kernel)
theorem wd_1193 : (Jvm.Cond.code ⟨"ThawPointsModel", "whyNot", "(II)I"⟩ prog_8_method_69_code 3 (some .int)) ∈ WT := wt_of (i := 1193) (by decide +kernel) (by decide +kernel)
theorem wd_1194 : (Jvm.Cond.methodLink "ThawPointsLaw" 169 ⟨"ThawPointsModel", "overlap", "(III)I"⟩) ∈ WT := wt_of (i := 1194) (by decide +kernel) (by decide +kernel)
theorem wd_1195 : (Jvm.Cond.instanceMethod ⟨"ThawPointsModel", "overlap", "(III)I"⟩) ∈ WT := wt_of (i := 1195) (by decide +kernel) (by decide +kernel)
theorem wd_1196 : (Jvm.Cond.selects "ThawPointsModel" ⟨"ThawPointsModel", "overlap", "(III)I"⟩ ⟨"ThawPointsModel", "overlap", "(III)I"⟩) ∈ WT := wt_of (i := 1196) (by decide +kernel) (by decide +kernel)
theorem wd_1197 : (Jvm.Cond.code ⟨"ThawPointsModel", "overlap", "(III)I"⟩ prog_8_method_70_code 5 (some .int)) ∈ WT := wt_of (i := 1197) (by decide +kernel) (by decide +kernel)
theorem wd_1198 : (Jvm.Cond.methodLink "ThawPointsLaw" 172 ⟨"ThawPointsModel", "worstDegree", "(II)I"⟩) ∈ WT := wt_of (i := 1198) (by decide +kernel) (by decide +kernel)
theorem wd_1199 : (Jvm.Cond.instanceMethod ⟨"ThawPointsModel", "worstDegree", "(II)I"⟩) ∈ WT := wt_of (i := 1199) (by decide +kernel) (by decide +kernel)
theorem wd_1200 : (Jvm.Cond.selects "ThawPointsModel" ⟨"ThawPointsModel", "worstDegree", "(II)I"⟩ ⟨"ThawPointsModel", "worstDegree", "(II)I"⟩) ∈ WT := wt_of (i := 1200) (by decide +kernel) (by decide +kernel)
theorem wd_1201 : (Jvm.Cond.code ⟨"ThawPointsModel", "worstDegree", "(II)I"⟩ prog_8_method_72_code 3 (some .int)) ∈ WT := wt_of (i := 1201) (by decide +kernel) (by decide +kernel)
theorem wd_1202 : (Jvm.Cond.methodLink "ThawPointsModel" 200 ⟨"ThawPointsModel", "worst", "(II)I"⟩) ∈ WT := wt_of (i := 1202) (by decide +kernel) (by decide +kernel)
theorem wd_1204 : (Jvm.Cond.instanceMethod ⟨"ThawPointsModel", "worst", "(II)I"⟩) ∈ WT := wt_of (i := 1204) (by decide +kernel) (by decide +kernel)
theorem wd_1205 : (Jvm.Cond.code ⟨"ThawPointsModel", "worst", "(II)I"⟩ prog_8_method_71_code 7 (some .int)) ∈ WT := wt_of (i := 1205) (by decide +kernel) (by decide +kernel)
theorem wd_1206 : (Jvm.Cond.methodLink "ThawPointsLaw" 175 ⟨"ThawPointsModel", "voidIn", "(I)I"⟩) ∈ WT := wt_of (i := 1206) (by decide +kernel) (by decide +kernel)
theorem wd_1207 : (Jvm.Cond.instanceMethod ⟨"ThawPointsModel", "voidIn", "(I)I"⟩) ∈ WT := wt_of (i := 1207) (by decide +kernel) (by decide +kernel)
theorem wd_1208 : (Jvm.Cond.selects "ThawPointsModel" ⟨"ThawPointsModel", "voidIn", "(I)I"⟩ ⟨"ThawPointsModel", "voidIn", "(I)I"⟩) ∈ WT := wt_of (i := 1208) (by decide +kernel) (by decide +kernel)
theorem wd_1209 : (Jvm.Cond.code ⟨"ThawPointsModel", "voidIn", "(I)I"⟩ prog_8_method_74_code 2 (some .int)) ∈ WT := wt_of (i := 1209) (by decide +kernel) (by decide +kernel)
theorem wd_1210 : (Jvm.Cond.methodLink "ThawPointsModel" 203 ⟨"ThawPointsModel", "yearsUntilVoid", "(I)I"⟩) ∈ WT := wt_of (i := 1210) (by decide +kernel) (by decide +kernel)
theorem wd_1212 : (Jvm.Cond.instanceMethod ⟨"ThawPointsModel", "yearsUntilVoid", "(I)I"⟩) ∈ WT := wt_of (i := 1212) (by decide +kernel) (by decide +kernel)
theorem wd_1213 : (Jvm.Cond.code ⟨"ThawPointsModel", "yearsUntilVoid", "(I)I"⟩ prog_8_method_73_code 4 (some .int)) ∈ WT := wt_of (i := 1213) (by decide +kernel) (by decide +kernel)
theorem wd_1214 : (Jvm.Cond.methodLink "ThawPointsLaw" 180 ⟨"ThawPointsModel", "validShare", "()D"⟩) ∈ WT := wt_of (i := 1214) (by decide +kernel) (by decide +kernel)
theorem wd_1215 : (Jvm.Cond.instanceMethod ⟨"ThawPointsModel", "validShare", "()D"⟩) ∈ WT := wt_of (i := 1215) (by decide +kernel) (by decide +kernel)
theorem wd_1216 : (Jvm.Cond.selects "ThawPointsModel" ⟨"ThawPointsModel", "validShare", "()D"⟩ ⟨"ThawPointsModel", "validShare", "()D"⟩) ∈ WT := wt_of (i := 1216) (by decide +kernel) (by decide +kernel)
theorem wd_1217 : (Jvm.Cond.code ⟨"ThawPointsModel", "validShare", "()D"⟩ prog_8_method_76_code 1 (some .double)) ∈ WT := wt_of (i := 1217) (by decide +kernel) (by decide +kernel)
theorem wd_1218 : (Jvm.Cond.methodLink "ThawPointsModel" 206 ⟨"ThawPointsModel", "share", "()D"⟩) ∈ WT := wt_of (i := 1218) (by decide +kernel) (by decide +kernel)
theorem wd_1220 : (Jvm.Cond.instanceMethod ⟨"ThawPointsModel", "share", "()D"⟩) ∈ WT := wt_of (i := 1220) (by decide +kernel) (by decide +kernel)
theorem wd_1221 : (Jvm.Cond.code ⟨"ThawPointsModel", "share", "()D"⟩ prog_8_method_75_code 1 (some .double)) ∈ WT := wt_of (i := 1221) (by decide +kernel) (by decide +kernel)
theorem wd_1222 : (Jvm.Cond.methodLink "ThawPointsLaw" 185 ⟨"ThawPointsModel", "digest", "()J"⟩) ∈ WT := wt_of (i := 1222) (by decide +kernel) (by decide +kernel)
theorem wd_1223 : (Jvm.Cond.instanceMethod ⟨"ThawPointsModel", "digest", "()J"⟩) ∈ WT := wt_of (i := 1223) (by decide +kernel) (by decide +kernel)
theorem wd_1224 : (Jvm.Cond.selects "ThawPointsModel" ⟨"ThawPointsModel", "digest", "()J"⟩ ⟨"ThawPointsModel", "digest", "()J"⟩) ∈ WT := wt_of (i := 1224) (by decide +kernel) (by decide +kernel)
theorem wd_1225 : (Jvm.Cond.code ⟨"ThawPointsModel", "digest", "()J"⟩ prog_8_method_80_code 2 (some .long)) ∈ WT := wt_of (i := 1225) (by decide +kernel) (by decide +kernel)
theorem wd_1226 : (Jvm.Cond.constantLong "ThawPointsModel" 228 (3907 : Int64)) ∈ WT := wt_of (i := 1226) (by decide +kernel) (by decide +kernel)
theorem wd_1227 : (Jvm.Cond.methodLink "ThawPointsModel" 224 ⟨"ThawPointsModel", "digestOne", "(J)V"⟩) ∈ WT := wt_of (i := 1227) (by decide +kernel) (by decide +kernel)
theorem wd_1229 : (Jvm.Cond.instanceMethod ⟨"ThawPointsModel", "digestOne", "(J)V"⟩) ∈ WT := wt_of (i := 1229) (by decide +kernel) (by decide +kernel)
theorem wd_1230 : (Jvm.Cond.code ⟨"ThawPointsModel", "digestOne", "(J)V"⟩ prog_8_method_78_code 3 none) ∈ WT := wt_of (i := 1230) (by decide +kernel) (by decide +kernel)
theorem wd_1231 : (Jvm.Cond.constantLong "ThawPointsModel" 218 (31 : Int64)) ∈ WT := wt_of (i := 1231) (by decide +kernel) (by decide +kernel)
theorem wd_1232 : (Jvm.Cond.methodLink "ThawPointsModel" 230 ⟨"ThawPointsModel", "digestGlass", "(I)V"⟩) ∈ WT := wt_of (i := 1232) (by decide +kernel) (by decide +kernel)
theorem wd_1234 : (Jvm.Cond.instanceMethod ⟨"ThawPointsModel", "digestGlass", "(I)V"⟩) ∈ WT := wt_of (i := 1234) (by decide +kernel) (by decide +kernel)
theorem wd_1235 : (Jvm.Cond.code ⟨"ThawPointsModel", "digestGlass", "(I)V"⟩ prog_8_method_79_code 3 none) ∈ WT := wt_of (i := 1235) (by decide +kernel) (by decide +kernel)
theorem wd_1236 : (Jvm.Cond.methodLink "ThawPointsModel" 234 ⟨"ThawPointsModel", "bitsOf", "(D)J"⟩) ∈ WT := wt_of (i := 1236) (by decide +kernel) (by decide +kernel)
theorem wd_1237 : (Jvm.Cond.static ⟨"ThawPointsModel", "bitsOf", "(D)J"⟩) ∈ WT := wt_of (i := 1237) (by decide +kernel) (by decide +kernel)
theorem wd_1238 : (Jvm.Cond.code ⟨"ThawPointsModel", "bitsOf", "(D)J"⟩ prog_8_method_77_code 6 (some .long)) ∈ WT := wt_of (i := 1238) (by decide +kernel) (by decide +kernel)
theorem wd_1239 : (Jvm.Cond.constantLong "ThawPointsModel" 210 (1023 : Int64)) ∈ WT := wt_of (i := 1239) (by decide +kernel) (by decide +kernel)
theorem wd_1240 : (Jvm.Cond.constantDouble "ThawPointsModel" 212 (4611686018427387904 : UInt64)) ∈ WT := wt_of (i := 1240) (by decide +kernel) (by decide +kernel)
theorem wd_1241 : (Jvm.Cond.constantLong "ThawPointsModel" 214 (4503599627370496 : Int64)) ∈ WT := wt_of (i := 1241) (by decide +kernel) (by decide +kernel)
theorem wd_1242 : (Jvm.Cond.constantDouble "ThawPointsModel" 216 (4841369599423283200 : UInt64)) ∈ WT := wt_of (i := 1242) (by decide +kernel) (by decide +kernel)
theorem wd_1243 : (Jvm.Cond.arrayClass Jvm.ClassFile.FieldType.long) ∈ WT := wt_of (i := 1243) (by decide +kernel) (by decide +kernel)
theorem in_X0 : ∀ w ∈ u_ws RX0 TX0 3, w ∈ WT := List.forall_mem_cons.mpr ⟨wd_235, List.forall_mem_cons.mpr ⟨wd_237, List.forall_mem_cons.mpr ⟨wd_239, fun _ h => absurd h List.not_mem_nil⟩⟩⟩
theorem in_X1 : ∀ w ∈ u_ws RX1 TX1 8, w ∈ WT := List.forall_mem_cons.mpr ⟨wd_135, List.forall_mem_cons.mpr ⟨wd_137, List.forall_mem_cons.mpr ⟨wd_139, List.forall_mem_cons.mpr ⟨wd_141, List.forall_mem_cons.mpr ⟨wd_143, List.forall_mem_cons.mpr ⟨wd_145, List.forall_mem_cons.mpr ⟨wd_147, List.forall_mem_cons.mpr ⟨wd_149, fun _ h => absurd h List.not_mem_nil⟩⟩⟩⟩⟩⟩⟩⟩
theorem in_X2 : ∀ w ∈ u_ws RX2 TX2 8, w ∈ WT := List.forall_mem_cons.mpr ⟨wd_205, List.forall_mem_cons.mpr ⟨wd_207, List.forall_mem_cons.mpr ⟨wd_209, List.forall_mem_cons.mpr ⟨wd_211, List.forall_mem_cons.mpr ⟨wd_213, List.forall_mem_cons.mpr ⟨wd_215, List.forall_mem_cons.mpr ⟨wd_217, List.forall_mem_cons.mpr ⟨wd_219, fun _ h => absurd h List.not_mem_nil⟩⟩⟩⟩⟩⟩⟩⟩
theorem in_X3 : ∀ w ∈ u_ws RX3 TX3 8, w ∈ WT := List.forall_mem_cons.mpr ⟨wd_172, List.forall_mem_cons.mpr ⟨wd_174, List.forall_mem_cons.mpr ⟨wd_176, List.forall_mem_cons.mpr ⟨wd_178, List.forall_mem_cons.mpr ⟨wd_180, List.forall_mem_cons.mpr ⟨wd_182, List.forall_mem_cons.mpr ⟨wd_184, List.forall_mem_cons.mpr ⟨wd_186, fun _ h => absurd h List.not_mem_nil⟩⟩⟩⟩⟩⟩⟩⟩
theorem in_X4 : ∀ w ∈ u_ws RX4 TX4 6, w ∈ WT := List.forall_mem_cons.mpr ⟨wd_259, List.forall_mem_cons.mpr ⟨wd_261, List.forall_mem_cons.mpr ⟨wd_263, List.forall_mem_cons.mpr ⟨wd_265, List.forall_mem_cons.mpr ⟨wd_267, List.forall_mem_cons.mpr ⟨wd_269, fun _ h => absurd h List.not_mem_nil⟩⟩⟩⟩⟩⟩
theorem in_X5 : ∀ w ∈ u_ws RX5 TX5 5, w ∈ WT := List.forall_mem_cons.mpr ⟨wd_278, List.forall_mem_cons.mpr ⟨wd_280, List.forall_mem_cons.mpr ⟨wd_282, List.forall_mem_cons.mpr ⟨wd_284, List.forall_mem_cons.mpr ⟨wd_286, fun _ h => absurd h List.not_mem_nil⟩⟩⟩⟩⟩
theorem in_X6 : ∀ w ∈ u_ws RX6 TX6 15, w ∈ WT := List.forall_mem_cons.mpr ⟨wd_894, List.forall_mem_cons.mpr ⟨wd_896, List.forall_mem_cons.mpr ⟨wd_898, List.forall_mem_cons.mpr ⟨wd_900, List.forall_mem_cons.mpr ⟨wd_902, List.forall_mem_cons.mpr ⟨wd_904, List.forall_mem_cons.mpr ⟨wd_906, List.forall_mem_cons.mpr ⟨wd_908, List.forall_mem_cons.mpr ⟨wd_910, List.forall_mem_cons.mpr ⟨wd_912, List.forall_mem_cons.mpr ⟨wd_914, List.forall_mem_cons.mpr ⟨wd_916, List.forall_mem_cons.mpr ⟨wd_918, List.forall_mem_cons.mpr ⟨wd_920, List.forall_mem_cons.mpr ⟨wd_922, fun _ h => absurd h List.not_mem_nil⟩⟩⟩⟩⟩⟩⟩⟩⟩⟩⟩⟩⟩⟩⟩
end
section
/-! the world: numbers by kind, object and place -/
abbrev OM : Type := (Nat → Nat → Nat → Int32) × (Nat → Int64)
def rd (o : OM) (k i j : Nat) : Int32 := o.1 k i j
def wrA (o : OM) (k i : Nat) (f : Nat → Int32) : OM := (fun a b => if a = k ∧ b = i then f else o.1 a b, o.2)
def wr (o : OM) (k i j : Nat) (v : Int32) : OM := wrA o k i (upd (o.1 k i) j v)
def rdL (o : OM) (k : Nat) : Int64 := o.2 k
def wrL (o : OM) (k : Nat) (v : Int64) : OM := (o.1, fun a => if a = k then v else o.2 a)
abbrev Gd : Type := Nat × (Nat → ClassId) × (Nat → Nat → Nat) × (ClassId × ClassId × ClassId × ClassId × ClassId)
abbrev gD (G : Gd) : va_G := (G.2.1, G.2.2.1)
abbrev aI (G : Gd) : ClassId := G.2.2.2.1
abbrev aC (G : Gd) : ClassId := G.2.2.2.2.1
abbrev aJ (G : Gd) : ClassId := G.2.2.2.2.2.1
abbrev aS (G : Gd) : ClassId := G.2.2.2.2.2.2.1
abbrev aT (G : Gd) : ClassId := G.2.2.2.2.2.2.2
def gT (G : Gd) : List (ClassId × FieldType) := [(aI G, .int), (aC G, .char), (aJ G, .long), (aS G, .object RX2), (aT G, .object RX3)]
/-! where the cells lie -/
def sO (j : Nat) : Nat := if j = 0 then 1 else if j = 1 then 59 else 58 * j + 3
def tO (t : Nat) : Nat := sO (t / 6) + 4 + 9 * (t % 6)
def adr (k i : Nat) : Nat := match k with
  | 0 => 0
  | 1 => sO i
  | 2 => sO i + 1
  | 3 => sO i + 2
  | 4 => sO i + 3
  | 5 => tO i
  | 6 => tO i + 1
  | 7 => tO i + 2
  | 8 => tO i + 3
  | 9 => tO i + 4
  | 10 => tO i + 5
  | 11 => tO i + 6
  | 12 => tO i + 7
  | 13 => tO i + 8
  | 14 => 117
  | 15 => 118
  | 16 => 467
  | 17 => 468
  | 18 => 469
  | 19 => 470
  | 20 => 471
  | 21 => 472
  | 22 => 473
  | 23 => 474
  | _ => 475
def okb (k i : Nat) : Bool := match k with
  | 1 | 2 | 3 | 4 => decide (i < 8)
  | 5 | 6 | 7 | 8 | 9 | 10 | 11 | 12 | 13 => decide (i < 48)
  | k => decide (i = 0) && decide (k < 25)
def stK (r j : Nat) : Nat × Nat := if r < 4 then (r + 1, j) else (5 + (r - 4) % 9, 6 * j + (r - 4) / 9)
def kd (n : Nat) : Nat × Nat := if n = 0 then (0, 0) else if n < 117 then stK ((n - 1) % 58) ((n - 1) / 58) else if n = 117 then (14, 0) else if n = 118 then (15, 0) else if n < 467 then stK ((n - 119) % 58) ((n - 119) / 58 + 2) else (n - 451, 0)
theorem kd_adr0 : ∀ k, k < 25 → ∀ i, i < 48 → okb k i = true → kd (adr k i) = (k, i) ∧ adr k i < 476 := by decide +kernel
theorem adr_kd0 : ∀ n, n < 476 → adr (kd n).1 (kd n).2 = n ∧ okb (kd n).1 (kd n).2 = true := by decide +kernel
theorem okb_lt {k i : Nat} (h : okb k i = true) : k < 25 ∧ i < 48 := by
  unfold okb at h
  split at h <;> simp at h <;> omega
theorem kd_adr {k i : Nat} (h : okb k i = true) : kd (adr k i) = (k, i) ∧ adr k i < 476 := kd_adr0 k (okb_lt h).1 i (okb_lt h).2 h
def rA (G : Gd) (k i : Nat) : Nat := G.1 + adr k i
def tid (j : Nat) (v : Int32) : Nat := 6 * j + v.toNatClampNeg % 6
/-- what the cell of a kind and number holds -/
def cl0 (G : Gd) (k i : Nat) (f : Nat → Int32) (x : Int64) : va_E := match k with
  | 0 => .inr (5, [.ref (rA G 1 0), .ref (rA G 1 1), .ref (rA G 14 0), .ref (rA G 16 0), .int (f 4)])
  | 1 => .inr (2, [.int (f 0), .int (f 1), .int (f 2), .int (f 3), .int (f 4), .ref (rA G 2 i), .ref (rA G 3 i), .ref (rA G 4 i)])
  | 2 => .inl (aI G, 4, .inl f)
  | 3 => .inl (aI G, 7, .inl f)
  | 4 => .inl (aT G, 6, .inr (.inr (.inr (.inr (fun n => some (rA G 5 (tid i (f n))))))))
  | 5 => .inr (3, [.int (f 0), .int (f 1), .int (f 2), .int (f 3), .int (f 4), .int (f 5), .int (f 6), .ref (rA G 6 i)])
  | 6 => .inr (1, [.int (f 0), .ref (rA G 7 i), .ref (rA G 8 i), .ref (rA G 9 i), .ref (rA G 10 i), .ref (rA G 11 i), .ref (rA G 12 i), .ref (rA G 13 i)])
  | 7 | 8 | 9 | 10 | 11 | 12 | 13 => .inl (aI G, 10, .inl f)
  | 14 => .inr (0, [.int (f 0), .int (f 1), .ref (rA G 15 0)])
  | 15 => .inl (aS G, 6, .inr (.inr (.inr (.inr (fun n => some (rA G 1 (n + 2)))))))
  | 16 => .inr (4, [.int (f 0), .ref (rA G 17 0), .int (f 2), .int (f 3), .ref (rA G 18 0), .int (f 5)])
  | 17 => .inl (aC G, 60, .inl f)
  | 18 => .inl (aI G, 3, .inl f)
  | 19 => .inr (6, [.int (f 0), .ref (rA G 20 0), .ref (rA G 21 0), .int (f 3), .ref (rA G 22 0), .int (f 5), .ref (rA G 23 0), .int (f 7), .int (f 8), .int (f 9), .int (f 10), .int (f 11), .int (f 12), .int (f 13), .long x])
  | 20 => .inl (aI G, 244, .inl f)
  | 21 => .inl (aI G, 1464, .inl f)
  | 22 => .inl (aI G, 244, .inl f)
  | 23 => .inl (aI G, 60, .inl f)
  | _ => .inl (aJ G, 1, .inr (.inl (fun _ => x)))
def cel (G : Gd) (o : OM) (k i : Nat) : va_E := cl0 G k i (o.1 k i) (o.2 k)
def WS (G : Gd) (o : OM) : va_W := (List.range 476).map (fun n => (G.1 + n, cel G o (kd n).1 (kd n).2))
theorem WS_get {G : Gd} {o : OM} {n : Nat} (h : n < 476) : (WS G o)[n]? = some (G.1 + n, cel G o (kd n).1 (kd n).2) := by
  unfold WS
  rw [List.getElem?_map, List.getElem?_range h]
  rfl
theorem WS_out {G : Gd} {o : OM} {n : Nat} (h : ¬ n < 476) : (WS G o)[n]? = none := by
  apply List.getElem?_eq_none
  unfold WS
  rw [List.length_map, List.length_range]
  omega
theorem WS_at {G : Gd} {o : OM} {k i : Nat} (h : okb k i = true) : (WS G o)[adr k i]? = some (rA G k i, cel G o k i) := by
  obtain ⟨h1, h2⟩ := kd_adr h
  rw [WS_get h2, h1]
  rfl
theorem WS_D (G : Gd) (o : OM) : va_D (fun q : Nat => G.1 ≤ q) (WS G o) := by
  refine ⟨fun i j p q hi hj hpq => ?_, fun k q hk => ?_⟩
  · by_cases h1 : i < 476
    · by_cases h2 : j < 476
      · rw [WS_get h1] at hi
        rw [WS_get h2] at hj
        cases hi; cases hj
        have : G.1 + i = G.1 + j := hpq
        omega
      · rw [WS_out h2] at hj; cases hj
    · rw [WS_out h1] at hi; cases hi
  · by_cases h1 : k < 476
    · rw [WS_get h1] at hk
      cases hk
      exact Nat.le_add_right _ _
    · rw [WS_out h1] at hk; cases hk
theorem WS_set {G : Gd} {o o' : OM} {k i : Nat} {e : va_E} (h : okb k i = true) (he : cel G o' k i = e) (hn : ∀ a b, okb a b = true → ¬ (a = k ∧ b = i) → cel G o' a b = cel G o a b) : (WS G o).set (adr k i) (rA G k i, e) = WS G o' := by
  obtain ⟨h1, h2⟩ := kd_adr h
  apply List.ext_getElem?
  intro n
  by_cases hn' : n < 476
  · rw [WS_get hn']
    by_cases hk : n = adr k i
    · subst hk
      have hl : adr k i < (WS G o).length := by
        unfold WS
        rw [List.length_map, List.length_range]
        exact h2
      rw [List.getElem?_set_self hl, h1]
      rw [← he]
      rfl
    · rw [List.getElem?_set_ne (fun z => hk z.symm), WS_get hn']
      obtain ⟨g1, g2⟩ := adr_kd0 n hn'
      rw [hn _ _ g2 (fun z => hk (by rw [← g1, z.1, z.2]))]
  · rw [WS_out hn']
    by_cases hk : n = adr k i
    · omega
    · rw [List.getElem?_set_ne (fun z => hk z.symm), WS_out hn']
theorem cel_wrA {G : Gd} {o : OM} {k i : Nat} {f : Nat → Int32} {a b : Nat} (h : ¬ (a = k ∧ b = i)) : cel G (wrA o k i f) a b = cel G o a b := by
  unfold cel wrA
  simp only [if_neg h]
theorem cel_wrL {G : Gd} {o : OM} {k i : Nat} {x : Int64} (hk : k = 19 ∨ k = 24) {a b : Nat} (hb : okb a b = true) (hi : okb k i = true) (h : ¬ (a = k ∧ b = i)) : cel G (wrL o k x) a b = cel G o a b := by
  unfold cel wrL
  by_cases ha : a = k
  · exfalso
    apply h
    refine ⟨ha, ?_⟩
    subst ha
    rcases hk with rfl | rfl <;> simp [okb] at hb hi <;> omega
  · simp only [if_neg ha]
theorem cel_self {G : Gd} {o : OM} {k i : Nat} {f : Nat → Int32} : cel G (wrA o k i f) k i = cl0 G k i f (o.2 k) := by
  unfold cel wrA
  simp
theorem celL_self {G : Gd} {o : OM} {k i : Nat} {x : Int64} : cel G (wrL o k x) k i = cl0 G k i (o.1 k i) x := by
  unfold cel wrL
  simp
/-! what the numbers say of a run -/
def inB (x : Int32) (n : Nat) : Bool := decide (¬ (x < 0 ∨ n ≤ x.toNatClampNeg))
def ofB (b : Bool) : Int32 := if b then 1 else 0
def isZ (x : Int32) : Bool := decide (x = 0) || decide (x = 1)
def grd {α : Type} (b : Bool) (k : Option α) : Option α := if b = true then k else none
def bd {α β : Type} (a : α) (k : α → β) : β := k a
def bn {α β γ : Type} (x : Option (α × β)) (k : α → β → Option γ) : Option γ := match x with
  | none => none
  | some q => k q.1 q.2
def FU : Nat := 2000
theorem inB_in {x : Int32} {n : Nat} (h : inB x n = true) : vp_in x n := by unfold vp_in; exact of_decide_eq_true h
theorem grd_s {α : Type} {b : Bool} {k : Option α} {z : α} (h : grd b k = some z) : b = true ∧ k = some z := by
  unfold grd at h
  split at h
  · exact ⟨by assumption, h⟩
  · cases h
theorem bn_s {α β γ : Type} {x : Option (α × β)} {k : α → β → Option γ} {z : γ} (h : bn x k = some z) : ∃ a b, x = some (a, b) ∧ k a b = some z := by
  unfold bn at h
  split at h
  · cases h
  · exact ⟨_, _, rfl, h⟩
theorem ite_y {α : Type} {c : Prop} [Decidable c] {a b z : α} (h : (if c then a else b) = z) (hc : c) : a = z := by rw [if_pos hc] at h; exact h
theorem ite_n {α : Type} {c : Prop} [Decidable c] {a b z : α} (h : (if c then a else b) = z) (hc : ¬ c) : b = z := by rw [if_neg hc] at h; exact h
/-! a method's contract -/
def Dc (cc : ByteArray) (pc : Nat) (i : Instr) (n pc' : Nat) : Prop := decode cc pc = .ok (i, n) ∧ pc + n = pc'
def Dj (cc : ByteArray) (pc : Nat) (i : Instr) (n pc' : Nat) (off : Int) (tgt : Nat) : Prop := decode cc pc = .ok (i, n) ∧ pc + n = pc' ∧ (pc : Int) + off = (tgt : Int)
def Cx (G : Gd) (own : String) (cc : ByteArray) (nL : Nat) (ret : Option FieldType) (p : Program) (s : State) (m : MethodId) (args : Array Value) (meth : Method) (c : Code) : Prop :=
  p.tables.exec = Jvm.exec ∧ c.code = cc ∧ c.maxLocals = nL ∧ meth.sig.returnType = ret ∧ s.vm.findClass own = some m.cls ∧ (∀ w ∈ WT, w.before args s = true) ∧ va_K (gD G) vwCl (gT G) s ∧ meth.locks = false ∧ G.1 + 476 ≤ s.heap.size
abbrev fr (G : Gd) : Nat → Prop := fun q : Nat => G.1 ≤ q
def Hp (G : Gd) (o : OM) (s : State) (H : Heap) (locs : List Loc) : Prop := va_P (gD G) vwCl (WS G o) H ∧ va_S (fr G) s.heap H locs
def PreG (G : Gd) (o : OM) (U : State) : Prop := va_P (gD G) vwCl (WS G o) U.heap ∧ va_K (gD G) vwCl (gT G) U ∧ G.1 + 476 ≤ U.heap.size
def QcG (G : Gd) (rv : Option Value) (o' : OM) : Array Value → State → Outcome → State → Prop := fun _ st oc t => oc = .returned rv ∧ va_P (gD G) vwCl (WS G o') t.heap ∧ va_F (fr G) st t
abbrev Ct (l : Launch) (y : MethodName) (cc : ByteArray) (maxL : Nat) (ret : Option FieldType) (rm : Room) (G : Gd) (As : List Value) (o : OM) (rv : Option Value) (o' : OM) : Prop :=
  Met l y (Cond.code y cc maxL ret :: WT) rm (va_Pc As (PreG G o)) (QcG G rv o') rm.cells rm.slots (fr G)
abbrev Qm (G : Gd) (rv : Option Value) (o' : OM) (rm : Room) (below : List Frame) (args : Array Value) (s : State) : State → Prop := MQ below (QcG G rv o') args s rm.cells rm.slots (fr G)
theorem ct_of {l : Launch} {y : MethodName} {cc : ByteArray} {maxL : Nat} {ret : Option FieldType} {rm : Room} {G : Gd} {As : List Value} {o : OM} {rv : Option Value} {o' : OM} (hy : plainName y.cls = true) (hl : (lg_sl As).length ≤ maxL)
    (body : ∀ p e s m below meth c ls, Cx G y.cls cc maxL ret p s m As.toArray meth c → Hp G o s s.heap [] → lv_has ls maxL (lv_args 0 As) →
      W p l e rm s m As.toArray below meth c s.heap [] 0 0 (Qm G rv o' rm below As.toArray s) (F0 m 0 ls [])) : Ct l y cc maxL ret rm G As o rv o' := by
  refine Met.ofW (cc := cc) (maxL := maxL) (ret := ret) hy rfl ?_
  intro p e s m args below meth c s₁ B hml hv
  obtain ⟨rfl, hP, hK, hz⟩ := hv
  have hts := atoms_spec (ws := Cond.code y cc maxL ret :: WT) B.pre
  have hC : Cx G y.cls cc maxL ret p s m As.toArray meth c := ⟨B.exec, B.bytes, hml, B.returns, findClass_of_methodNamed B.named, fun w hw => hts w (List.mem_cons_of_mem _ hw), hK, B.notSynchronized, hz⟩
  have h := body p e s m below meth c _ hC ⟨hP, va_S.rf⟩ (lv_entry As (n := maxL) hl)
  rw [lg_entry_eq]
  exact h
section FR
variable {G : Gd} {own : String} {cc : ByteArray} {nL : Nat} {ret : Option FieldType} {p : Program} {l : Launch} {e : Env} {R : Room} {s : State} {m : MethodId} {args : Array Value} {below : List Frame} {meth : Method} {c : Code} {H : Heap} {locs : List Loc} {cells slots : Nat} {Q : State → Prop} {o : OM}
variable {pc pc' : Nat} {ls : Array Slot} {rest : List Value}
theorem Cx.A (C : Cx G own cc nL ret p s m args meth c) : ∀ q, s.heap.size ≤ q → fr G q := fun q h => by
  obtain ⟨_, _, _, _, _, _, _, _, h9⟩ := C
  show G.1 ≤ q
  omega
/-- behind a write of a cell -/
theorem Hp.put (P : Hp G o s H locs) {o' : OM} {H1 : Heap} {L1 : List Loc} {ws : va_W} (e : ws = WS G o') (h : va_P (gD G) vwCl ws H1) (hS : va_S (fr G) s.heap H1 L1) : Hp G o' s H1 L1 := ⟨e ▸ h, hS⟩
theorem r_iald (C : Cx G own cc nL ret p s m args meth c) (P : Hp G o s H locs) {k i n : Nat} (hc : ∀ f x, cl0 G k i f x = .inl (aI G, n, .inl f)) (h : okb k i = true) {x : Int32} (d : Dc cc pc .iaload 1 pc') {α : Type} {K : Option α} {z : α} (hf : grd (inB x n) K = some z)
    (kk : K = some z → W p l e R s m args below meth c H locs cells slots Q (F0 m pc' ls (.int (rd o k i x.toNatClampNeg) :: rest))) : W p l e R s m args below meth c H locs cells slots Q (F0 m pc ls (.int x :: .ref (rA G k i) :: rest)) := by
  obtain ⟨d1, rfl⟩ := d
  obtain ⟨g1, g2⟩ := grd_s hf
  have ha : (WS G o)[adr k i]? = some (rA G k i, .inl (aI G, n, .inl (o.1 k i))) := (WS_at h).trans (by unfold cel; rw [hc])
  exact va_iald C.1 C.2.1 C.2.2.2.2.2.2.1 P.1 (adr k i) 0 ha rfl (inB_in g1) d1 (kk g2)
theorem r_iast (C : Cx G own cc nL ret p s m args meth c) (P : Hp G o s H locs) {k i n : Nat} (hc : ∀ f x, cl0 G k i f x = .inl (aI G, n, .inl f)) (h : okb k i = true) {x v : Int32} (d : Dc cc pc .iastore 1 pc') {α : Type} {K : OM → Option α} {z : α} (hf : grd (inB x n) (bd (wr o k i x.toNatClampNeg v) K) = some z)
    (kk : ∀ o1 H1 L1, Hp G o1 s H1 L1 → K o1 = some z → W p l e R s m args below meth c H1 L1 cells slots Q (F0 m pc' ls rest)) : W p l e R s m args below meth c H locs cells slots Q (F0 m pc ls (.int v :: .int x :: .ref (rA G k i) :: rest)) := by
  obtain ⟨d1, rfl⟩ := d
  obtain ⟨g1, g2⟩ := grd_s hf
  have ha : (WS G o)[adr k i]? = some (rA G k i, .inl (aI G, n, .inl (o.1 k i))) := (WS_at h).trans (by unfold cel; rw [hc])
  refine va_iast C.1 C.2.1 C.2.2.2.2.2.2.1 P.1 (WS_D G o) P.2 (adr k i) 0 ha rfl (inB_in g1) d1 (fun H1 L1 h1 _ h3 => kk (wr o k i x.toNatClampNeg v) H1 L1 (P.put ?_ h1 h3) g2)
  exact WS_set h (by unfold wr; rw [cel_self, hc]) (fun a b _ hab => by unfold wr; exact cel_wrA hab)
theorem r_iadd (C : Cx G own cc nL ret p s m args meth c) {x y : Int32} (d : Dc cc pc .iadd 1 pc') (kk : W p l e R s m args below meth c H locs cells slots Q (F0 m pc' ls (.int (x + y) :: rest))) : W p l e R s m args below meth c H locs cells slots Q (F0 m pc ls (.int y :: .int x :: rest)) := by
  obtain ⟨d1, rfl⟩ := d
  exact lv_iadd C.1 C.2.1 d1 kk
end FR
end
section
section RW
variable {G : Gd} {own : String} {cc : ByteArray} {nL : Nat} {ret : Option FieldType} {p : Program} {l : Launch} {e : Env} {R : Room} {s : State} {m : MethodId} {args : Array Value} {below : List Frame} {meth : Method} {c : Code} {H : Heap} {locs : List Loc} {cells slots : Nat} {Q : State → Prop} {o : OM}
variable {pc pc' : Nat} {ls : Array Slot} {rest : List Value}
theorem r_iconst (C : Cx G own cc nL ret p s m args meth c) {n : Int} {v : Int32} (hv : Int32.ofInt n = v) (d : Dc cc pc (.iconst n) 1 pc') (kk : W p l e R s m args below meth c H locs cells slots Q (F0 m pc' ls (.int v :: rest))) : W p l e R s m args below meth c H locs cells slots Q (F0 m pc ls (rest)) := by
  obtain ⟨d1, rfl⟩ := d
  exact lv_iconst C.1 C.2.1 d1 hv kk
theorem r_bipush (C : Cx G own cc nL ret p s m args meth c) {n : Int} {v : Int32} (hv : (Int8.ofInt n).toInt32 = v) (d : Dc cc pc (.bipush n) 2 pc') (kk : W p l e R s m args below meth c H locs cells slots Q (F0 m pc' ls (.int v :: rest))) : W p l e R s m args below meth c H locs cells slots Q (F0 m pc ls (rest)) := by
  obtain ⟨d1, rfl⟩ := d
  exact lv_bipush C.1 C.2.1 d1 hv kk
theorem r_sipush (C : Cx G own cc nL ret p s m args meth c) {n : Int} {v : Int32} (hv : (Int16.ofInt n).toInt32 = v) (d : Dc cc pc (.sipush n) 3 pc') (kk : W p l e R s m args below meth c H locs cells slots Q (F0 m pc' ls (.int v :: rest))) : W p l e R s m args below meth c H locs cells slots Q (F0 m pc ls (rest)) := by
  obtain ⟨d1, rfl⟩ := d
  exact lv_sipush C.1 C.2.1 d1 hv kk
theorem r_lconst (C : Cx G own cc nL ret p s m args meth c) {n : Fin 2} {v : Int64} (hv : Int64.ofNat (n : Nat) = v) (d : Dc cc pc (.lconst n) 1 pc') (kk : W p l e R s m args below meth c H locs cells slots Q (F0 m pc' ls (.long v :: rest))) : W p l e R s m args below meth c H locs cells slots Q (F0 m pc ls (rest)) := by
  obtain ⟨d1, rfl⟩ := d
  exact lv_lconst C.1 C.2.1 d1 hv kk
theorem r_dconst0 (C : Cx G own cc nL ret p s m args meth c) (d : Dc cc pc (.dconst 0) 1 pc') (kk : W p l e R s m args below meth c H locs cells slots Q (F0 m pc' ls (.double FP.dconst0 :: rest))) : W p l e R s m args below meth c H locs cells slots Q (F0 m pc ls (rest)) := by
  obtain ⟨d1, rfl⟩ := d
  exact lv_dconst0 C.1 C.2.1 d1 kk
theorem r_dconst1 (C : Cx G own cc nL ret p s m args meth c) (d : Dc cc pc (.dconst 1) 1 pc') (kk : W p l e R s m args below meth c H locs cells slots Q (F0 m pc' ls (.double FP.dconst1 :: rest))) : W p l e R s m args below meth c H locs cells slots Q (F0 m pc ls (rest)) := by
  obtain ⟨d1, rfl⟩ := d
  exact lv_dconst1 C.1 C.2.1 d1 kk
theorem r_ldc (C : Cx G own cc nL ret p s m args meth c) {idx : Nat} {v : Int32} (hw : Cond.constant own idx v ∈ WT) (d : Dc cc pc (.ldc idx) 2 pc') (kk : W p l e R s m args below meth c H locs cells slots Q (F0 m pc' ls (.int v :: rest))) : W p l e R s m args below meth c H locs cells slots Q (F0 m pc ls (rest)) := by
  obtain ⟨d1, rfl⟩ := d
  exact lv_ldc C.1 C.2.1 C.2.2.2.2.1 (C.2.2.2.2.2.1 _ hw) d1 kk
theorem r_ldcw (C : Cx G own cc nL ret p s m args meth c) {idx : Nat} {v : Int32} (hw : Cond.constant own idx v ∈ WT) (d : Dc cc pc (.ldc_w idx) 3 pc') (kk : W p l e R s m args below meth c H locs cells slots Q (F0 m pc' ls (.int v :: rest))) : W p l e R s m args below meth c H locs cells slots Q (F0 m pc ls (rest)) := by
  obtain ⟨d1, rfl⟩ := d
  exact lv_ldcw C.1 C.2.1 C.2.2.2.2.1 (C.2.2.2.2.2.1 _ hw) d1 kk
theorem r_ldc2 (C : Cx G own cc nL ret p s m args meth c) {idx : Nat} {v : Int64} (hw : Cond.constantLong own idx v ∈ WT) (d : Dc cc pc (.ldc2_w idx) 3 pc') (kk : W p l e R s m args below meth c H locs cells slots Q (F0 m pc' ls (.long v :: rest))) : W p l e R s m args below meth c H locs cells slots Q (F0 m pc ls (rest)) := by
  obtain ⟨d1, rfl⟩ := d
  exact lv_ldc2 C.1 C.2.1 C.2.2.2.2.1 (C.2.2.2.2.2.1 _ hw) d1 kk
theorem r_ldc2d (C : Cx G own cc nL ret p s m args meth c) {idx : Nat} {v : UInt64} (hw : Cond.constantDouble own idx v ∈ WT) (d : Dc cc pc (.ldc2_w idx) 3 pc') (kk : W p l e R s m args below meth c H locs cells slots Q (F0 m pc' ls (.double v :: rest))) : W p l e R s m args below meth c H locs cells slots Q (F0 m pc ls (rest)) := by
  obtain ⟨d1, rfl⟩ := d
  exact lv_ldc2d C.1 C.2.1 C.2.2.2.2.1 (C.2.2.2.2.2.1 _ hw) d1 kk
theorem r_iload_n (C : Cx G own cc nL ret p s m args meth c) {k : Fin 4} {lv : List (Nat × Value)} (hl : lv_has ls nL lv) (j : Nat) {i : Nat} {x : Int32} (hj : lv[j]? = some (i, Value.int x)) (hi : (k : Nat) = i) (d : Dc cc pc (.iload_n k) 1 pc') (kk : W p l e R s m args below meth c H locs cells slots Q (F0 m pc' ls (.int x :: rest))) : W p l e R s m args below meth c H locs cells slots Q (F0 m pc ls (rest)) := by
  obtain ⟨d1, rfl⟩ := d
  exact lv_iload_n C.1 C.2.1 d1 hi (lv_at hl j hj) kk
theorem r_iload (C : Cx G own cc nL ret p s m args meth c) {lv : List (Nat × Value)} (hl : lv_has ls nL lv) (j : Nat) {i : Nat} {x : Int32} (hj : lv[j]? = some (i, Value.int x)) (d : Dc cc pc (.iload i) 2 pc') (kk : W p l e R s m args below meth c H locs cells slots Q (F0 m pc' ls (.int x :: rest))) : W p l e R s m args below meth c H locs cells slots Q (F0 m pc ls (rest)) := by
  obtain ⟨d1, rfl⟩ := d
  exact lv_iload C.1 C.2.1 d1 (lv_at hl j hj) kk
theorem r_istore_n (C : Cx G own cc nL ret p s m args meth c) {k : Fin 4} {lv : List (Nat × Value)} (lv' : List (Nat × Value)) {i : Nat} {x : Int32} (hl : lv_has ls nL lv) (hn : i < nL) (hv : (i, Value.int x) :: lv.filter (fun q => !(q.1 == i) && !(q.1 + 1 == i && q.2.category == 2)) = lv') (hi : (k : Nat) = i) (d : Dc cc pc (.istore_n k) 1 pc') (kk : ∀ ls' : Array Slot, lv_has ls' nL lv' → W p l e R s m args below meth c H locs cells slots Q (F0 m pc' ls' rest)) : W p l e R s m args below meth c H locs cells slots Q (F0 m pc ls (.int x :: rest)) := by
  obtain ⟨d1, rfl⟩ := d
  exact lv_istore_n C.1 C.2.1 d1 hi hl hn hv kk
theorem r_istore (C : Cx G own cc nL ret p s m args meth c) {lv : List (Nat × Value)} (lv' : List (Nat × Value)) {i : Nat} {x : Int32} (hl : lv_has ls nL lv) (hn : i < nL) (hv : (i, Value.int x) :: lv.filter (fun q => !(q.1 == i) && !(q.1 + 1 == i && q.2.category == 2)) = lv') (d : Dc cc pc (.istore i) 2 pc') (kk : ∀ ls' : Array Slot, lv_has ls' nL lv' → W p l e R s m args below meth c H locs cells slots Q (F0 m pc' ls' rest)) : W p l e R s m args below meth c H locs cells slots Q (F0 m pc ls (.int x :: rest)) := by
  obtain ⟨d1, rfl⟩ := d
  exact lv_istore C.1 C.2.1 d1 hl hn hv kk
theorem r_lload_n (C : Cx G own cc nL ret p s m args meth c) {k : Fin 4} {lv : List (Nat × Value)} (hl : lv_has ls nL lv) (j : Nat) {i : Nat} {x : Int64} (hj : lv[j]? = some (i, Value.long x)) (hi : (k : Nat) = i) (d : Dc cc pc (.lload_n k) 1 pc') (kk : W p l e R s m args below meth c H locs cells slots Q (F0 m pc' ls (.long x :: rest))) : W p l e R s m args below meth c H locs cells slots Q (F0 m pc ls (rest)) := by
  obtain ⟨d1, rfl⟩ := d
  exact lv_lload_n C.1 C.2.1 d1 hi (lv_at hl j hj) kk
theorem r_lload (C : Cx G own cc nL ret p s m args meth c) {lv : List (Nat × Value)} (hl : lv_has ls nL lv) (j : Nat) {i : Nat} {x : Int64} (hj : lv[j]? = some (i, Value.long x)) (d : Dc cc pc (.lload i) 2 pc') (kk : W p l e R s m args below meth c H locs cells slots Q (F0 m pc' ls (.long x :: rest))) : W p l e R s m args below meth c H locs cells slots Q (F0 m pc ls (rest)) := by
  obtain ⟨d1, rfl⟩ := d
  exact lv_lload C.1 C.2.1 d1 (lv_at hl j hj) kk
theorem r_lstore_n (C : Cx G own cc nL ret p s m args meth c) {k : Fin 4} {lv : List (Nat × Value)} (lv' : List (Nat × Value)) {i : Nat} {x : Int64} (hl : lv_has ls nL lv) (hn : i + 1 < nL) (hv : (i, Value.long x) :: lv.filter (fun q => !(q.1 == i) && (!(q.1 == i + 1) && !(q.1 + 1 == i && q.2.category == 2))) = lv') (hi : (k : Nat) = i) (d : Dc cc pc (.lstore_n k) 1 pc') (kk : ∀ ls' : Array Slot, lv_has ls' nL lv' → W p l e R s m args below meth c H locs cells slots Q (F0 m pc' ls' rest)) : W p l e R s m args below meth c H locs cells slots Q (F0 m pc ls (.long x :: rest)) := by
  obtain ⟨d1, rfl⟩ := d
  exact lv_lstore_n C.1 C.2.1 d1 hi hl hn hv kk
theorem r_lstore (C : Cx G own cc nL ret p s m args meth c) {lv : List (Nat × Value)} (lv' : List (Nat × Value)) {i : Nat} {x : Int64} (hl : lv_has ls nL lv) (hn : i + 1 < nL) (hv : (i, Value.long x) :: lv.filter (fun q => !(q.1 == i) && (!(q.1 == i + 1) && !(q.1 + 1 == i && q.2.category == 2))) = lv') (d : Dc cc pc (.lstore i) 2 pc') (kk : ∀ ls' : Array Slot, lv_has ls' nL lv' → W p l e R s m args below meth c H locs cells slots Q (F0 m pc' ls' rest)) : W p l e R s m args below meth c H locs cells slots Q (F0 m pc ls (.long x :: rest)) := by
  obtain ⟨d1, rfl⟩ := d
  exact lv_lstore C.1 C.2.1 d1 hl hn hv kk
theorem r_dload_n (C : Cx G own cc nL ret p s m args meth c) {k : Fin 4} {lv : List (Nat × Value)} (hl : lv_has ls nL lv) (j : Nat) {i : Nat} {x : UInt64} (hj : lv[j]? = some (i, Value.double x)) (hi : (k : Nat) = i) (d : Dc cc pc (.dload_n k) 1 pc') (kk : W p l e R s m args below meth c H locs cells slots Q (F0 m pc' ls (.double x :: rest))) : W p l e R s m args below meth c H locs cells slots Q (F0 m pc ls (rest)) := by
  obtain ⟨d1, rfl⟩ := d
  exact lv_dload_n C.1 C.2.1 d1 hi (lv_at hl j hj) kk
theorem r_dload (C : Cx G own cc nL ret p s m args meth c) {lv : List (Nat × Value)} (hl : lv_has ls nL lv) (j : Nat) {i : Nat} {x : UInt64} (hj : lv[j]? = some (i, Value.double x)) (d : Dc cc pc (.dload i) 2 pc') (kk : W p l e R s m args below meth c H locs cells slots Q (F0 m pc' ls (.double x :: rest))) : W p l e R s m args below meth c H locs cells slots Q (F0 m pc ls (rest)) := by
  obtain ⟨d1, rfl⟩ := d
  exact lv_dload C.1 C.2.1 d1 (lv_at hl j hj) kk
theorem r_dstore_n (C : Cx G own cc nL ret p s m args meth c) {k : Fin 4} {lv : List (Nat × Value)} (lv' : List (Nat × Value)) {i : Nat} {x : UInt64} (hl : lv_has ls nL lv) (hn : i + 1 < nL) (hv : (i, Value.double x) :: lv.filter (fun q => !(q.1 == i) && (!(q.1 == i + 1) && !(q.1 + 1 == i && q.2.category == 2))) = lv') (hi : (k : Nat) = i) (d : Dc cc pc (.dstore_n k) 1 pc') (kk : ∀ ls' : Array Slot, lv_has ls' nL lv' → W p l e R s m args below meth c H locs cells slots Q (F0 m pc' ls' rest)) : W p l e R s m args below meth c H locs cells slots Q (F0 m pc ls (.double x :: rest)) := by
  obtain ⟨d1, rfl⟩ := d
  exact lv_dstore_n C.1 C.2.1 d1 hi hl hn hv kk
theorem r_dstore (C : Cx G own cc nL ret p s m args meth c) {lv : List (Nat × Value)} (lv' : List (Nat × Value)) {i : Nat} {x : UInt64} (hl : lv_has ls nL lv) (hn : i + 1 < nL) (hv : (i, Value.double x) :: lv.filter (fun q => !(q.1 == i) && (!(q.1 == i + 1) && !(q.1 + 1 == i && q.2.category == 2))) = lv') (d : Dc cc pc (.dstore i) 2 pc') (kk : ∀ ls' : Array Slot, lv_has ls' nL lv' → W p l e R s m args below meth c H locs cells slots Q (F0 m pc' ls' rest)) : W p l e R s m args below meth c H locs cells slots Q (F0 m pc ls (.double x :: rest)) := by
  obtain ⟨d1, rfl⟩ := d
  exact lv_dstore C.1 C.2.1 d1 hl hn hv kk
theorem r_aload_n (C : Cx G own cc nL ret p s m args meth c) {k : Fin 4} {lv : List (Nat × Value)} (hl : lv_has ls nL lv) (j : Nat) {i : Nat} {x : Nat} (hj : lv[j]? = some (i, Value.ref x)) (hi : (k : Nat) = i) (d : Dc cc pc (.aload_n k) 1 pc') (kk : W p l e R s m args below meth c H locs cells slots Q (F0 m pc' ls (.ref x :: rest))) : W p l e R s m args below meth c H locs cells slots Q (F0 m pc ls (rest)) := by
  obtain ⟨d1, rfl⟩ := d
  exact lv_aload_n C.1 C.2.1 d1 hi (lv_at hl j hj) kk
theorem r_aload (C : Cx G own cc nL ret p s m args meth c) {lv : List (Nat × Value)} (hl : lv_has ls nL lv) (j : Nat) {i : Nat} {x : Nat} (hj : lv[j]? = some (i, Value.ref x)) (d : Dc cc pc (.aload i) 2 pc') (kk : W p l e R s m args below meth c H locs cells slots Q (F0 m pc' ls (.ref x :: rest))) : W p l e R s m args below meth c H locs cells slots Q (F0 m pc ls (rest)) := by
  obtain ⟨d1, rfl⟩ := d
  exact lv_aload C.1 C.2.1 d1 (lv_at hl j hj) kk
theorem r_astore_n (C : Cx G own cc nL ret p s m args meth c) {k : Fin 4} {lv : List (Nat × Value)} (lv' : List (Nat × Value)) {i : Nat} {x : Nat} (hl : lv_has ls nL lv) (hn : i < nL) (hv : (i, Value.ref x) :: lv.filter (fun q => !(q.1 == i) && !(q.1 + 1 == i && q.2.category == 2)) = lv') (hi : (k : Nat) = i) (d : Dc cc pc (.astore_n k) 1 pc') (kk : ∀ ls' : Array Slot, lv_has ls' nL lv' → W p l e R s m args below meth c H locs cells slots Q (F0 m pc' ls' rest)) : W p l e R s m args below meth c H locs cells slots Q (F0 m pc ls (.ref x :: rest)) := by
  obtain ⟨d1, rfl⟩ := d
  exact lv_astore_n C.1 C.2.1 d1 hi hl hn hv kk
theorem r_astore (C : Cx G own cc nL ret p s m args meth c) {lv : List (Nat × Value)} (lv' : List (Nat × Value)) {i : Nat} {x : Nat} (hl : lv_has ls nL lv) (hn : i < nL) (hv : (i, Value.ref x) :: lv.filter (fun q => !(q.1 == i) && !(q.1 + 1 == i && q.2.category == 2)) = lv') (d : Dc cc pc (.astore i) 2 pc') (kk : ∀ ls' : Array Slot, lv_has ls' nL lv' → W p l e R s m args below meth c H locs cells slots Q (F0 m pc' ls' rest)) : W p l e R s m args below meth c H locs cells slots Q (F0 m pc ls (.ref x :: rest)) := by
  obtain ⟨d1, rfl⟩ := d
  exact lv_astore C.1 C.2.1 d1 hl hn hv kk
theorem r_iinc (C : Cx G own cc nL ret p s m args meth c) {lv : List (Nat × Value)} (lv' : Int32 → List (Nat × Value)) {i : Nat} {n : Int} {x w : Int32} (j : Nat) (hl : lv_has ls nL lv) (hj : lv[j]? = some (i, .int x)) (hw : Int32.ofInt n = w) (hn : i < nL) (hv : ∀ y, (i, Value.int y) :: lv.filter (fun q => !(q.1 == i) && !(q.1 + 1 == i && q.2.category == 2)) = lv' y) (d : Dc cc pc (.iinc i n) 3 pc') {β : Type} {K : Int32 → β} {z : β} (hf : bd (x + w) K = z) (kk : ∀ y (ls' : Array Slot), lv_has ls' nL (lv' y) → K y = z → W p l e R s m args below meth c H locs cells slots Q (F0 m pc' ls' rest)) : W p l e R s m args below meth c H locs cells slots Q (F0 m pc ls rest) := by
  obtain ⟨d1, rfl⟩ := d
  exact lv_iinc (v := x + w) C.1 C.2.1 d1 hl hj (by rw [hw]) hn (hv _) (fun ls' h => kk _ ls' h hf)
theorem r_bdi {x : Int32} {β : Type} {K : Int32 → β} {z : β} (hf : bd x K = z) (kk : ∀ y : Int32, K y = z → W p l e R s m args below meth c H locs cells slots Q (F0 m pc ls (.int y :: rest))) : W p l e R s m args below meth c H locs cells slots Q (F0 m pc ls (.int x :: rest)) := kk x hf
theorem r_bdl {x : Int64} {β : Type} {K : Int64 → β} {z : β} (hf : bd x K = z) (kk : ∀ y : Int64, K y = z → W p l e R s m args below meth c H locs cells slots Q (F0 m pc ls (.long y :: rest))) : W p l e R s m args below meth c H locs cells slots Q (F0 m pc ls (.long x :: rest)) := kk x hf
theorem r_bdd {x : UInt64} {β : Type} {K : UInt64 → β} {z : β} (hf : bd x K = z) (kk : ∀ y : UInt64, K y = z → W p l e R s m args below meth c H locs cells slots Q (F0 m pc ls (.double y :: rest))) : W p l e R s m args below meth c H locs cells slots Q (F0 m pc ls (.double x :: rest)) := kk x hf
theorem r_iadd2 (C : Cx G own cc nL ret p s m args meth c) {x y : Int32} (d : Dc cc pc .iadd 1 pc') (kk : W p l e R s m args below meth c H locs cells slots Q (F0 m pc' ls (.int (x + y) :: rest))) : W p l e R s m args below meth c H locs cells slots Q (F0 m pc ls (.int y :: .int x :: rest)) := by
  obtain ⟨d1, rfl⟩ := d
  exact lv_iadd C.1 C.2.1 d1 kk
theorem r_isub (C : Cx G own cc nL ret p s m args meth c) {x y : Int32} (d : Dc cc pc .isub 1 pc') (kk : W p l e R s m args below meth c H locs cells slots Q (F0 m pc' ls (.int (x - y) :: rest))) : W p l e R s m args below meth c H locs cells slots Q (F0 m pc ls (.int y :: .int x :: rest)) := by
  obtain ⟨d1, rfl⟩ := d
  exact lv_isub C.1 C.2.1 d1 kk
theorem r_imul (C : Cx G own cc nL ret p s m args meth c) {x y : Int32} (d : Dc cc pc .imul 1 pc') (kk : W p l e R s m args below meth c H locs cells slots Q (F0 m pc' ls (.int (x * y) :: rest))) : W p l e R s m args below meth c H locs cells slots Q (F0 m pc ls (.int y :: .int x :: rest)) := by
  obtain ⟨d1, rfl⟩ := d
  exact lv_imul C.1 C.2.1 d1 kk
theorem r_iand (C : Cx G own cc nL ret p s m args meth c) {x y : Int32} (d : Dc cc pc .iand 1 pc') (kk : W p l e R s m args below meth c H locs cells slots Q (F0 m pc' ls (.int (x &&& y) :: rest))) : W p l e R s m args below meth c H locs cells slots Q (F0 m pc ls (.int y :: .int x :: rest)) := by
  obtain ⟨d1, rfl⟩ := d
  exact lv_iand C.1 C.2.1 d1 kk
theorem r_ineg (C : Cx G own cc nL ret p s m args meth c) {x : Int32} (d : Dc cc pc .ineg 1 pc') (kk : W p l e R s m args below meth c H locs cells slots Q (F0 m pc' ls (.int (-x) :: rest))) : W p l e R s m args below meth c H locs cells slots Q (F0 m pc ls (.int x :: rest)) := by
  obtain ⟨d1, rfl⟩ := d
  exact lv_ineg C.1 C.2.1 d1 kk
theorem r_ixor (C : Cx G own cc nL ret p s m args meth c) {x y : Int32} (d : Dc cc pc .ixor 1 pc') (kk : W p l e R s m args below meth c H locs cells slots Q (F0 m pc' ls (.int (x ^^^ y) :: rest))) : W p l e R s m args below meth c H locs cells slots Q (F0 m pc ls (.int y :: .int x :: rest)) := by
  obtain ⟨d1, rfl⟩ := d
  exact lv_ixor C.1 C.2.1 d1 kk
theorem r_idiv (C : Cx G own cc nL ret p s m args meth c) {x y : Int32} (d : Dc cc pc .idiv 1 pc') {α : Type} {K : Option α} {z : α} (hf : grd (decide (¬ y = 0)) K = some z) (kk : K = some z → W p l e R s m args below meth c H locs cells slots Q (F0 m pc' ls (.int (x / y) :: rest))) : W p l e R s m args below meth c H locs cells slots Q (F0 m pc ls (.int y :: .int x :: rest)) := by
  obtain ⟨d1, rfl⟩ := d
  obtain ⟨g1, g2⟩ := grd_s hf
  exact lv_idiv C.1 C.2.1 d1 (of_decide_eq_true g1) (kk g2)
theorem r_irem (C : Cx G own cc nL ret p s m args meth c) {x y : Int32} (d : Dc cc pc .irem 1 pc') {α : Type} {K : Option α} {z : α} (hf : grd (decide (¬ y = 0)) K = some z) (kk : K = some z → W p l e R s m args below meth c H locs cells slots Q (F0 m pc' ls (.int (x - x / y * y) :: rest))) : W p l e R s m args below meth c H locs cells slots Q (F0 m pc ls (.int y :: .int x :: rest)) := by
  obtain ⟨d1, rfl⟩ := d
  obtain ⟨g1, g2⟩ := grd_s hf
  exact lv_irem C.1 C.2.1 d1 (of_decide_eq_true g1) (kk g2)
theorem r_ladd (C : Cx G own cc nL ret p s m args meth c) {x y : Int64} (d : Dc cc pc .ladd 1 pc') (kk : W p l e R s m args below meth c H locs cells slots Q (F0 m pc' ls (.long (x + y) :: rest))) : W p l e R s m args below meth c H locs cells slots Q (F0 m pc ls (.long y :: .long x :: rest)) := by
  obtain ⟨d1, rfl⟩ := d
  exact lv_ladd C.1 C.2.1 d1 kk
theorem r_lsub (C : Cx G own cc nL ret p s m args meth c) {x y : Int64} (d : Dc cc pc .lsub 1 pc') (kk : W p l e R s m args below meth c H locs cells slots Q (F0 m pc' ls (.long (x - y) :: rest))) : W p l e R s m args below meth c H locs cells slots Q (F0 m pc ls (.long y :: .long x :: rest)) := by
  obtain ⟨d1, rfl⟩ := d
  exact lv_lsub C.1 C.2.1 d1 kk
theorem r_lmul (C : Cx G own cc nL ret p s m args meth c) {x y : Int64} (d : Dc cc pc .lmul 1 pc') (kk : W p l e R s m args below meth c H locs cells slots Q (F0 m pc' ls (.long (x * y) :: rest))) : W p l e R s m args below meth c H locs cells slots Q (F0 m pc ls (.long y :: .long x :: rest)) := by
  obtain ⟨d1, rfl⟩ := d
  exact lv_lmul C.1 C.2.1 d1 kk
theorem r_lshl (C : Cx G own cc nL ret p s m args meth c) {x : Int64} {y : Int32} (d : Dc cc pc .lshl 1 pc') (kk : W p l e R s m args below meth c H locs cells slots Q (F0 m pc' ls (.long (x <<< (y.toInt64 &&& 63)) :: rest))) : W p l e R s m args below meth c H locs cells slots Q (F0 m pc ls (.int y :: .long x :: rest)) := by
  obtain ⟨d1, rfl⟩ := d
  exact lv_lshl C.1 C.2.1 d1 rfl kk
theorem r_i2l (C : Cx G own cc nL ret p s m args meth c) {x : Int32} (d : Dc cc pc .i2l 1 pc') (kk : W p l e R s m args below meth c H locs cells slots Q (F0 m pc' ls (.long x.toInt64 :: rest))) : W p l e R s m args below meth c H locs cells slots Q (F0 m pc ls (.int x :: rest)) := by
  obtain ⟨d1, rfl⟩ := d
  exact lv_i2l C.1 C.2.1 d1 rfl kk
theorem r_i2c (C : Cx G own cc nL ret p s m args meth c) {x : Int32} (d : Dc cc pc .i2c 1 pc') (kk : W p l e R s m args below meth c H locs cells slots Q (F0 m pc' ls (.int (x.toUInt32 % 65536).toInt32 :: rest))) : W p l e R s m args below meth c H locs cells slots Q (F0 m pc ls (.int x :: rest)) := by
  obtain ⟨d1, rfl⟩ := d
  exact lv_i2c C.1 C.2.1 d1 rfl kk
theorem r_i2d (C : Cx G own cc nL ret p s m args meth c) {x : Int32} (d : Dc cc pc .i2d 1 pc') (kk : W p l e R s m args below meth c H locs cells slots Q (F0 m pc' ls (.double (FP.i2d x) :: rest))) : W p l e R s m args below meth c H locs cells slots Q (F0 m pc ls (.int x :: rest)) := by
  obtain ⟨d1, rfl⟩ := d
  exact lv_i2d C.1 C.2.1 d1 kk
theorem r_d2l (C : Cx G own cc nL ret p s m args meth c) {x : UInt64} (d : Dc cc pc .d2l 1 pc') (kk : W p l e R s m args below meth c H locs cells slots Q (F0 m pc' ls (.long (FP.d2l x) :: rest))) : W p l e R s m args below meth c H locs cells slots Q (F0 m pc ls (.double x :: rest)) := by
  obtain ⟨d1, rfl⟩ := d
  exact lv_d2l C.1 C.2.1 d1 kk
def n64 (x : UInt64) : Bool := decide (x &&& 0x7fffffffffffffff ≤ 0x7ff0000000000000)
theorem r_ddiv (C : Cx G own cc nL ret p s m args meth c) {x y : UInt64} (d : Dc cc pc .ddiv 1 pc') {α : Type} {K : UInt64 → Option α} {z : α} (hf : bd (FP.ddiv x y) (fun w => grd (n64 w) (K w)) = some z) (kk : ∀ w, K w = some z → W p l e R s m args below meth c H locs cells slots Q (F0 m pc' ls (.double w :: rest))) : W p l e R s m args below meth c H locs cells slots Q (F0 m pc ls (.double y :: .double x :: rest)) := by
  obtain ⟨d1, rfl⟩ := d
  obtain ⟨g1, g2⟩ := grd_s hf
  exact lv_ddiv C.1 C.2.1 d1 (by unfold vf_n64; exact of_decide_eq_true g1) (kk _ g2)
theorem r_dmul (C : Cx G own cc nL ret p s m args meth c) {x y : UInt64} (d : Dc cc pc .dmul 1 pc') {α : Type} {K : UInt64 → Option α} {z : α} (hf : bd (FP.dmul x y) (fun w => grd (n64 w) (K w)) = some z) (kk : ∀ w, K w = some z → W p l e R s m args below meth c H locs cells slots Q (F0 m pc' ls (.double w :: rest))) : W p l e R s m args below meth c H locs cells slots Q (F0 m pc ls (.double y :: .double x :: rest)) := by
  obtain ⟨d1, rfl⟩ := d
  obtain ⟨g1, g2⟩ := grd_s hf
  exact lv_dmul C.1 C.2.1 d1 (by unfold vf_n64; exact of_decide_eq_true g1) (kk _ g2)
theorem r_dsub (C : Cx G own cc nL ret p s m args meth c) {x y : UInt64} (d : Dc cc pc .dsub 1 pc') {α : Type} {K : UInt64 → Option α} {z : α} (hf : bd (FP.dsub x y) (fun w => grd (n64 w) (K w)) = some z) (kk : ∀ w, K w = some z → W p l e R s m args below meth c H locs cells slots Q (F0 m pc' ls (.double w :: rest))) : W p l e R s m args below meth c H locs cells slots Q (F0 m pc ls (.double y :: .double x :: rest)) := by
  obtain ⟨d1, rfl⟩ := d
  obtain ⟨g1, g2⟩ := grd_s hf
  exact lv_dsub C.1 C.2.1 d1 (by unfold vf_n64; exact of_decide_eq_true g1) (kk _ g2)
theorem r_dcmp (C : Cx G own cc nL ret p s m args meth c) {x y : UInt64} {op : CmpOp} (d : Dc cc pc (.dcmp op) 1 pc') (kk : W p l e R s m args below meth c H locs cells slots Q (F0 m pc' ls (.int (Op.cmpValue (FP.dcmp x y) op) :: rest))) : W p l e R s m args below meth c H locs cells slots Q (F0 m pc ls (.double y :: .double x :: rest)) := by
  obtain ⟨d1, rfl⟩ := d
  exact lv_dcmp C.1 C.2.1 d1 kk
theorem r_lcmp (C : Cx G own cc nL ret p s m args meth c) {x y : Int64} (d : Dc cc pc .lcmp 1 pc') (kk : W p l e R s m args below meth c H locs cells slots Q (F0 m pc' ls (.int (lg_cmp x y) :: rest))) : W p l e R s m args below meth c H locs cells slots Q (F0 m pc ls (.long y :: .long x :: rest)) := by
  obtain ⟨d1, rfl⟩ := d
  exact W.lcmp C.1 C.2.1 d1 kk
theorem r_dup (C : Cx G own cc nL ret p s m args meth c) {v : Value} (hv : v.category = 1) (d : Dc cc pc .dup 1 pc') (kk : W p l e R s m args below meth c H locs cells slots Q (F0 m pc' ls (v :: v :: rest))) : W p l e R s m args below meth c H locs cells slots Q (F0 m pc ls (v :: rest)) := by
  obtain ⟨d1, rfl⟩ := d
  exact lv_dup C.1 C.2.1 d1 hv kk
theorem r_pop (C : Cx G own cc nL ret p s m args meth c) {v : Value} (hv : v.category = 1) (d : Dc cc pc .pop 1 pc') (kk : W p l e R s m args below meth c H locs cells slots Q (F0 m pc' ls (rest))) : W p l e R s m args below meth c H locs cells slots Q (F0 m pc ls (v :: rest)) := by
  obtain ⟨d1, rfl⟩ := d
  exact lv_pop C.1 C.2.1 d1 hv kk
theorem r_dup2 (C : Cx G own cc nL ret p s m args meth c) {v w : Value} (hv : v.category = 1) (hw : w.category = 1) (d : Dc cc pc .dup2 1 pc') (kk : W p l e R s m args below meth c H locs cells slots Q (F0 m pc' ls (v :: w :: v :: w :: rest))) : W p l e R s m args below meth c H locs cells slots Q (F0 m pc ls (v :: w :: rest)) := by
  obtain ⟨d1, rfl⟩ := d
  exact lv_dup2_11 C.1 C.2.1 d1 hv hw kk
theorem r_dupx1 (C : Cx G own cc nL ret p s m args meth c) {v w : Value} (hv : v.category = 1) (hw : w.category = 1) (d : Dc cc pc .dup_x1 1 pc') (kk : W p l e R s m args below meth c H locs cells slots Q (F0 m pc' ls (v :: w :: v :: rest))) : W p l e R s m args below meth c H locs cells slots Q (F0 m pc ls (v :: w :: rest)) := by
  obtain ⟨d1, rfl⟩ := d
  exact lv_dup_x1 C.1 C.2.1 d1 hv hw kk
theorem r_goto (C : Cx G own cc nL ret p s m args meth c) {off : Int} {tgt : Nat} (d : Dj cc pc (.goto off) 3 pc' off tgt) (kk : W p l e R s m args below meth c H locs cells slots Q (F0 m tgt ls rest)) : W p l e R s m args below meth c H locs cells slots Q (F0 m pc ls rest) := by
  obtain ⟨d1, d2, d3⟩ := d
  exact lv_goto C.1 C.2.1 d1 d3 kk
theorem r_if_eq (C : Cx G own cc nL ret p s m args meth c) {x : Int32} {off : Int} {tgt : Nat} (d : Dj cc pc (.ifCond .eq off) 3 pc' off tgt) {α : Type} {A B : α} {z : α} (hf : (if x = 0 then A else B) = z) (kt : A = z → W p l e R s m args below meth c H locs cells slots Q (F0 m tgt ls rest)) (kf : B = z → W p l e R s m args below meth c H locs cells slots Q (F0 m pc' ls rest)) : W p l e R s m args below meth c H locs cells slots Q (F0 m pc ls (.int x :: rest)) := by
  obtain ⟨d1, rfl, d3⟩ := d
  exact lv_if_eq C.1 C.2.1 d1 d3 (fun hc => kt (ite_y hf hc)) (fun hc => kf (ite_n hf hc))
theorem r_if_ne (C : Cx G own cc nL ret p s m args meth c) {x : Int32} {off : Int} {tgt : Nat} (d : Dj cc pc (.ifCond .ne off) 3 pc' off tgt) {α : Type} {A B : α} {z : α} (hf : (if x = 0 then A else B) = z) (kt : B = z → W p l e R s m args below meth c H locs cells slots Q (F0 m tgt ls rest)) (kf : A = z → W p l e R s m args below meth c H locs cells slots Q (F0 m pc' ls rest)) : W p l e R s m args below meth c H locs cells slots Q (F0 m pc ls (.int x :: rest)) := by
  obtain ⟨d1, rfl, d3⟩ := d
  exact lv_if_ne C.1 C.2.1 d1 d3 (fun hc => kt (ite_n hf hc)) (fun hc => kf (ite_y hf hc))
theorem r_if_lt (C : Cx G own cc nL ret p s m args meth c) {x : Int32} {off : Int} {tgt : Nat} (d : Dj cc pc (.ifCond .lt off) 3 pc' off tgt) {α : Type} {A B : α} {z : α} (hf : (if x < 0 then A else B) = z) (kt : A = z → W p l e R s m args below meth c H locs cells slots Q (F0 m tgt ls rest)) (kf : B = z → W p l e R s m args below meth c H locs cells slots Q (F0 m pc' ls rest)) : W p l e R s m args below meth c H locs cells slots Q (F0 m pc ls (.int x :: rest)) := by
  obtain ⟨d1, rfl, d3⟩ := d
  exact lv_if_lt C.1 C.2.1 d1 d3 (fun hc => kt (ite_y hf hc)) (fun hc => kf (ite_n hf hc))
theorem r_if_ge (C : Cx G own cc nL ret p s m args meth c) {x : Int32} {off : Int} {tgt : Nat} (d : Dj cc pc (.ifCond .ge off) 3 pc' off tgt) {α : Type} {A B : α} {z : α} (hf : (if 0 ≤ x then A else B) = z) (kt : A = z → W p l e R s m args below meth c H locs cells slots Q (F0 m tgt ls rest)) (kf : B = z → W p l e R s m args below meth c H locs cells slots Q (F0 m pc' ls rest)) : W p l e R s m args below meth c H locs cells slots Q (F0 m pc ls (.int x :: rest)) := by
  obtain ⟨d1, rfl, d3⟩ := d
  exact lv_if_ge C.1 C.2.1 d1 d3 (fun hc => kt (ite_y hf hc)) (fun hc => kf (ite_n hf hc))
theorem r_if_gt (C : Cx G own cc nL ret p s m args meth c) {x : Int32} {off : Int} {tgt : Nat} (d : Dj cc pc (.ifCond .gt off) 3 pc' off tgt) {α : Type} {A B : α} {z : α} (hf : (if 0 < x then A else B) = z) (kt : A = z → W p l e R s m args below meth c H locs cells slots Q (F0 m tgt ls rest)) (kf : B = z → W p l e R s m args below meth c H locs cells slots Q (F0 m pc' ls rest)) : W p l e R s m args below meth c H locs cells slots Q (F0 m pc ls (.int x :: rest)) := by
  obtain ⟨d1, rfl, d3⟩ := d
  exact lv_if_gt C.1 C.2.1 d1 d3 (fun hc => kt (ite_y hf hc)) (fun hc => kf (ite_n hf hc))
theorem r_if_le (C : Cx G own cc nL ret p s m args meth c) {x : Int32} {off : Int} {tgt : Nat} (d : Dj cc pc (.ifCond .le off) 3 pc' off tgt) {α : Type} {A B : α} {z : α} (hf : (if x ≤ 0 then A else B) = z) (kt : A = z → W p l e R s m args below meth c H locs cells slots Q (F0 m tgt ls rest)) (kf : B = z → W p l e R s m args below meth c H locs cells slots Q (F0 m pc' ls rest)) : W p l e R s m args below meth c H locs cells slots Q (F0 m pc ls (.int x :: rest)) := by
  obtain ⟨d1, rfl, d3⟩ := d
  exact lv_if_le C.1 C.2.1 d1 d3 (fun hc => kt (ite_y hf hc)) (fun hc => kf (ite_n hf hc))
theorem r_icmp_eq (C : Cx G own cc nL ret p s m args meth c) {x y : Int32} {off : Int} {tgt : Nat} (d : Dj cc pc (.if_icmp .eq off) 3 pc' off tgt) {α : Type} {A B : α} {z : α} (hf : (if x = y then A else B) = z) (kt : A = z → W p l e R s m args below meth c H locs cells slots Q (F0 m tgt ls rest)) (kf : B = z → W p l e R s m args below meth c H locs cells slots Q (F0 m pc' ls rest)) : W p l e R s m args below meth c H locs cells slots Q (F0 m pc ls (.int y :: .int x :: rest)) := by
  obtain ⟨d1, rfl, d3⟩ := d
  exact lv_icmp_eq C.1 C.2.1 d1 d3 (fun hc => kt (ite_y hf hc)) (fun hc => kf (ite_n hf hc))
theorem r_icmp_ne (C : Cx G own cc nL ret p s m args meth c) {x y : Int32} {off : Int} {tgt : Nat} (d : Dj cc pc (.if_icmp .ne off) 3 pc' off tgt) {α : Type} {A B : α} {z : α} (hf : (if x = y then A else B) = z) (kt : B = z → W p l e R s m args below meth c H locs cells slots Q (F0 m tgt ls rest)) (kf : A = z → W p l e R s m args below meth c H locs cells slots Q (F0 m pc' ls rest)) : W p l e R s m args below meth c H locs cells slots Q (F0 m pc ls (.int y :: .int x :: rest)) := by
  obtain ⟨d1, rfl, d3⟩ := d
  exact lv_icmp_ne C.1 C.2.1 d1 d3 (fun hc => kt (ite_n hf hc)) (fun hc => kf (ite_y hf hc))
theorem r_icmp_lt (C : Cx G own cc nL ret p s m args meth c) {x y : Int32} {off : Int} {tgt : Nat} (d : Dj cc pc (.if_icmp .lt off) 3 pc' off tgt) {α : Type} {A B : α} {z : α} (hf : (if x < y then A else B) = z) (kt : A = z → W p l e R s m args below meth c H locs cells slots Q (F0 m tgt ls rest)) (kf : B = z → W p l e R s m args below meth c H locs cells slots Q (F0 m pc' ls rest)) : W p l e R s m args below meth c H locs cells slots Q (F0 m pc ls (.int y :: .int x :: rest)) := by
  obtain ⟨d1, rfl, d3⟩ := d
  exact lv_icmp_lt C.1 C.2.1 d1 d3 (fun hc => kt (ite_y hf hc)) (fun hc => kf (ite_n hf hc))
theorem r_icmp_ge (C : Cx G own cc nL ret p s m args meth c) {x y : Int32} {off : Int} {tgt : Nat} (d : Dj cc pc (.if_icmp .ge off) 3 pc' off tgt) {α : Type} {A B : α} {z : α} (hf : (if y ≤ x then A else B) = z) (kt : A = z → W p l e R s m args below meth c H locs cells slots Q (F0 m tgt ls rest)) (kf : B = z → W p l e R s m args below meth c H locs cells slots Q (F0 m pc' ls rest)) : W p l e R s m args below meth c H locs cells slots Q (F0 m pc ls (.int y :: .int x :: rest)) := by
  obtain ⟨d1, rfl, d3⟩ := d
  exact lv_icmp_ge C.1 C.2.1 d1 d3 (fun hc => kt (ite_y hf hc)) (fun hc => kf (ite_n hf hc))
theorem r_icmp_gt (C : Cx G own cc nL ret p s m args meth c) {x y : Int32} {off : Int} {tgt : Nat} (d : Dj cc pc (.if_icmp .gt off) 3 pc' off tgt) {α : Type} {A B : α} {z : α} (hf : (if y < x then A else B) = z) (kt : A = z → W p l e R s m args below meth c H locs cells slots Q (F0 m tgt ls rest)) (kf : B = z → W p l e R s m args below meth c H locs cells slots Q (F0 m pc' ls rest)) : W p l e R s m args below meth c H locs cells slots Q (F0 m pc ls (.int y :: .int x :: rest)) := by
  obtain ⟨d1, rfl, d3⟩ := d
  exact lv_icmp_gt C.1 C.2.1 d1 d3 (fun hc => kt (ite_y hf hc)) (fun hc => kf (ite_n hf hc))
theorem r_icmp_le (C : Cx G own cc nL ret p s m args meth c) {x y : Int32} {off : Int} {tgt : Nat} (d : Dj cc pc (.if_icmp .le off) 3 pc' off tgt) {α : Type} {A B : α} {z : α} (hf : (if x ≤ y then A else B) = z) (kt : A = z → W p l e R s m args below meth c H locs cells slots Q (F0 m tgt ls rest)) (kf : B = z → W p l e R s m args below meth c H locs cells slots Q (F0 m pc' ls rest)) : W p l e R s m args below meth c H locs cells slots Q (F0 m pc ls (.int y :: .int x :: rest)) := by
  obtain ⟨d1, rfl, d3⟩ := d
  exact lv_icmp_le C.1 C.2.1 d1 d3 (fun hc => kt (ite_y hf hc)) (fun hc => kf (ite_n hf hc))
theorem r_iret (C : Cx G own cc nL (some .int) p s m args meth c) (P : Hp G o s H locs) {rm : Room} (hz : cells = rm.cells ∧ slots = rm.slots) {x r : Int32} {o1 : OM} (d : Dc cc pc .ireturn 1 pc') (hf : some (x, o) = some (r, o1)) : W p l e R s m args below meth c H locs cells slots (Qm G (some (.int r)) o1 rm below args s) (F0 m pc ls [.int x]) := by
  obtain ⟨d1, rfl⟩ := d
  obtain ⟨h1, h2⟩ := hz
  cases hf
  have hlocks : meth.locks = false := C.2.2.2.2.2.2.2.1
  rw [h1, h2]
  exact W.iret C.1 C.2.1 C.2.2.2.1 (fun t ht _ => ⟨rfl, by rw [ht]; exact P.1, P.2.F ht⟩) P.2.2.2 d1
theorem r_lret (C : Cx G own cc nL (some .long) p s m args meth c) (P : Hp G o s H locs) {rm : Room} (hz : cells = rm.cells ∧ slots = rm.slots) {x r : Int64} {o1 : OM} (d : Dc cc pc .lreturn 1 pc') (hf : some (x, o) = some (r, o1)) : W p l e R s m args below meth c H locs cells slots (Qm G (some (.long r)) o1 rm below args s) (F0 m pc ls [.long x]) := by
  obtain ⟨d1, rfl⟩ := d
  obtain ⟨h1, h2⟩ := hz
  cases hf
  have hlocks : meth.locks = false := C.2.2.2.2.2.2.2.1
  rw [h1, h2]
  exact W.lret C.1 C.2.1 C.2.2.2.1 (fun t ht _ => ⟨rfl, by rw [ht]; exact P.1, P.2.F ht⟩) P.2.2.2 d1
theorem r_dret (C : Cx G own cc nL (some .double) p s m args meth c) (P : Hp G o s H locs) {rm : Room} (hz : cells = rm.cells ∧ slots = rm.slots) {x r : UInt64} {o1 : OM} (d : Dc cc pc .dreturn 1 pc') (hf : some (x, o) = some (r, o1)) : W p l e R s m args below meth c H locs cells slots (Qm G (some (.double r)) o1 rm below args s) (F0 m pc ls [.double x]) := by
  obtain ⟨d1, rfl⟩ := d
  obtain ⟨h1, h2⟩ := hz
  cases hf
  have hlocks : meth.locks = false := C.2.2.2.2.2.2.2.1
  rw [h1, h2]
  exact W.dret C.1 C.2.1 C.2.2.2.1 (fun t ht _ => ⟨rfl, by rw [ht]; exact P.1, P.2.F ht⟩) P.2.2.2 d1
theorem r_zret (C : Cx G own cc nL (some .boolean) p s m args meth c) (P : Hp G o s H locs) {rm : Room} (hz : cells = rm.cells ∧ slots = rm.slots) {x r : Int32} {o1 : OM} (d : Dc cc pc .ireturn 1 pc') (hf : grd (isZ x) (some (x, o)) = some (r, o1)) : W p l e R s m args below meth c H locs cells slots (Qm G (some (.int r)) o1 rm below args s) (F0 m pc ls [.int x]) := by
  obtain ⟨d1, rfl⟩ := d
  obtain ⟨h1, h2⟩ := hz
  obtain ⟨g1, g2⟩ := grd_s hf
  cases g2
  have hlocks : meth.locks = false := C.2.2.2.2.2.2.2.1
  have hn : narrow .boolean (.int x) = .int x := by
    unfold isZ at g1
    rcases Bool.or_eq_true _ _ ▸ g1 with h | h <;> (rw [of_decide_eq_true h]; rfl)
  rw [h1, h2]
  exact W.zret C.1 C.2.1 C.2.2.2.1 hn (fun t ht _ => ⟨rfl, by rw [ht]; exact P.1, P.2.F ht⟩) P.2.2.2 d1
theorem r_vret (C : Cx G own cc nL none p s m args meth c) (P : Hp G o s H locs) {rm : Room} (hz : cells = rm.cells ∧ slots = rm.slots) {r : Unit} {o1 : OM} (d : Dc cc pc .return_ 1 pc') (hf : some ((), o) = some (r, o1)) : W p l e R s m args below meth c H locs cells slots (Qm G none o1 rm below args s) (F0 m pc ls []) := by
  obtain ⟨d1, rfl⟩ := d
  obtain ⟨h1, h2⟩ := hz
  cases hf
  have hlocks : meth.locks = false := C.2.2.2.2.2.2.2.1
  rw [h1, h2]
  exact W.vret C.1 C.2.1 C.2.2.2.1 (fun t ht _ => ⟨rfl, by rw [ht]; exact P.1, P.2.F ht⟩) P.2.2.2 d1
theorem r_cald (C : Cx G own cc nL ret p s m args meth c) (P : Hp G o s H locs) {k i n : Nat} (hc : ∀ f x, cl0 G k i f x = .inl (aC G, n, .inl f)) (h : okb k i = true) {x : Int32} (d : Dc cc pc .caload 1 pc') {α : Type} {K : Option α} {z : α} (hf : grd (inB x n) K = some z)
    (kk : K = some z → W p l e R s m args below meth c H locs cells slots Q (F0 m pc' ls (.int (rd o k i x.toNatClampNeg) :: rest))) : W p l e R s m args below meth c H locs cells slots Q (F0 m pc ls (.int x :: .ref (rA G k i) :: rest)) := by
  obtain ⟨d1, rfl⟩ := d
  obtain ⟨g1, g2⟩ := grd_s hf
  have ha : (WS G o)[adr k i]? = some (rA G k i, .inl (aC G, n, .inl (o.1 k i))) := (WS_at h).trans (by unfold cel; rw [hc])
  exact va_cald C.1 C.2.1 C.2.2.2.2.2.2.1 P.1 (adr k i) 1 ha rfl (inB_in g1) d1 (kk g2)
theorem r_cast (C : Cx G own cc nL ret p s m args meth c) (P : Hp G o s H locs) {k i n : Nat} (hc : ∀ f x, cl0 G k i f x = .inl (aC G, n, .inl f)) (h : okb k i = true) {x v : Int32} (d : Dc cc pc .castore 1 pc') {α : Type} {K : OM → Option α} {z : α} (hf : grd (inB x n) (bd (wr o k i x.toNatClampNeg (vp_nar .char v)) K) = some z)
    (kk : ∀ o1 H1 L1, Hp G o1 s H1 L1 → K o1 = some z → W p l e R s m args below meth c H1 L1 cells slots Q (F0 m pc' ls rest)) : W p l e R s m args below meth c H locs cells slots Q (F0 m pc ls (.int v :: .int x :: .ref (rA G k i) :: rest)) := by
  obtain ⟨d1, rfl⟩ := d
  obtain ⟨g1, g2⟩ := grd_s hf
  have ha : (WS G o)[adr k i]? = some (rA G k i, .inl (aC G, n, .inl (o.1 k i))) := (WS_at h).trans (by unfold cel; rw [hc])
  refine va_cast C.1 C.2.1 C.2.2.2.2.2.2.1 P.1 (WS_D G o) P.2 (adr k i) 1 ha rfl (inB_in g1) d1 (fun H1 L1 h1 _ h3 => kk (wr o k i x.toNatClampNeg (vp_nar .char v)) H1 L1 (P.put ?_ h1 h3) g2)
  exact WS_set h (by unfold wr; rw [cel_self, hc]) (fun a b _ hab => by unfold wr; exact cel_wrA hab)
theorem r_aldT (C : Cx G own cc nL ret p s m args meth c) (P : Hp G o s H locs) {i : Nat} (h : okb 4 i = true) {x : Int32} (d : Dc cc pc .aaload 1 pc') {α : Type} {K : Nat → Option α} {z : α} (hf : grd (inB x 6) (bd (tid i (rd o 4 i x.toNatClampNeg)) K) = some z)
    (kk : ∀ t, okb 5 t = true → K t = some z → W p l e R s m args below meth c H locs cells slots Q (F0 m pc' ls (.ref (rA G 5 t) :: rest))) : W p l e R s m args below meth c H locs cells slots Q (F0 m pc ls (.int x :: .ref (rA G 4 i) :: rest)) := by
  obtain ⟨d1, rfl⟩ := d
  obtain ⟨g1, g2⟩ := grd_s hf
  have ha : (WS G o)[adr 4 i]? = some (rA G 4 i, .inl (aT G, 6, .inr (.inr (.inr (.inr (fun n => some (rA G 5 (tid i (o.1 4 i n))))))))) := WS_at h
  refine va_aldq C.1 C.2.1 C.2.2.2.2.2.2.1 P.1 (adr 4 i) 4 ha rfl (inB_in g1) d1 (kk _ ?_ g2)
  have hi : i < 8 := of_decide_eq_true h
  refine decide_eq_true ?_
  unfold tid
  omega
theorem r_aldS (C : Cx G own cc nL ret p s m args meth c) (P : Hp G o s H locs) {x : Int32} (d : Dc cc pc .aaload 1 pc') {α : Type} {K : Nat → Option α} {z : α} (hf : grd (inB x 6) (bd (x.toNatClampNeg + 2) K) = some z)
    (kk : ∀ t, okb 1 t = true → K t = some z → W p l e R s m args below meth c H locs cells slots Q (F0 m pc' ls (.ref (rA G 1 t) :: rest))) : W p l e R s m args below meth c H locs cells slots Q (F0 m pc ls (.int x :: .ref (rA G 15 0) :: rest)) := by
  obtain ⟨d1, rfl⟩ := d
  obtain ⟨g1, g2⟩ := grd_s hf
  have ha : (WS G o)[adr 15 0]? = some (rA G 15 0, .inl (aS G, 6, .inr (.inr (.inr (.inr (fun n => some (rA G 1 (n + 2)))))))) := WS_at rfl
  refine va_aldq C.1 C.2.1 C.2.2.2.2.2.2.1 P.1 (adr 15 0) 3 ha rfl (inB_in g1) d1 (kk _ ?_ g2)
  have hx := (inB_in g1)
  unfold vp_in at hx
  refine decide_eq_true ?_
  omega
theorem r_astT (C : Cx G own cc nL ret p s m args meth c) (P : Hp G o s H locs) {i t : Nat} (h : okb 4 i = true) (ht : okb 5 t = true) {x : Int32} (d : Dc cc pc .aastore 1 pc') {α : Type} {K : OM → Option α} {z : α} (hf : grd (inB x 6 && decide (t / 6 = i)) (bd (wr o 4 i x.toNatClampNeg (nI (t % 6))) K) = some z)
    (kk : ∀ o1 H1 L1, Hp G o1 s H1 L1 → K o1 = some z → W p l e R s m args below meth c H1 L1 cells slots Q (F0 m pc' ls rest)) : W p l e R s m args below meth c H locs cells slots Q (F0 m pc ls (.ref (rA G 5 t) :: .int x :: .ref (rA G 4 i) :: rest)) := by
  obtain ⟨d1, rfl⟩ := d
  obtain ⟨g1, g2⟩ := grd_s hf
  rw [Bool.and_eq_true] at g1
  obtain ⟨g1, g3⟩ := g1
  have g3 : t / 6 = i := of_decide_eq_true g3
  have ha : (WS G o)[adr 4 i]? = some (rA G 4 i, .inl (aT G, 6, .inr (.inr (.inr (.inr (fun n => some (rA G 5 (tid i (o.1 4 i n))))))))) := WS_at h
  refine va_astq C.1 C.2.1 C.2.2.2.2.2.2.1 P.1 (WS_D G o) P.2 (adr 4 i) 4 (adr 5 t) 3 (r := (RX3, TX3, 8)) ha rfl (WS_at ht) rfl (inB_in g1) d1 (fun H1 L1 h1 _ h3 => kk (wr o 4 i x.toNatClampNeg (nI (t % 6))) H1 L1 (P.put ?_ h1 h3) g2)
  refine WS_set h ?_ (fun a b _ hab => by unfold wr; exact cel_wrA hab)
  unfold wr
  rw [cel_self]
  show Sum.inl (aT G, 6, _) = _
  have hq : tid i (nI (t % 6)) = t := by
    unfold tid
    rw [nI_clamp (by omega)]
    omega
  refine congrArg (fun f => (Sum.inl (aT G, 6, .inr (.inr (.inr (.inr f)))) : va_E)) (funext fun n => ?_)
  unfold upd va_up
  by_cases hn : n = x.toNatClampNeg
  · simp only [if_pos hn, hq]
  · simp only [if_neg hn]
theorem r_alenI (C : Cx G own cc nL ret p s m args meth c) (P : Hp G o s H locs) {k i : Nat} {x : vp_A} {v : Int32} (hc : ∀ f y, ∃ g, cl0 G k i f y = .inl (aI G, x.1, g)) (hv : Int32.ofNat x.1 = v) (h : okb k i = true) (d : Dc cc pc .arraylength 1 pc') (kk : W p l e R s m args below meth c H locs cells slots Q (F0 m pc' ls (.int v :: rest))) : W p l e R s m args below meth c H locs cells slots Q (F0 m pc ls (.ref (rA G k i) :: rest)) := by
  obtain ⟨d1, rfl⟩ := d
  obtain ⟨g, hg⟩ := hc (o.1 k i) (o.2 k)
  have ha : (WS G o)[adr k i]? = some (rA G k i, .inl (aI G, (x.1, g))) := (WS_at h).trans (by unfold cel; rw [hg])
  exact va_alen C.1 C.2.1 C.2.2.2.2.2.2.1 P.1 (adr k i) 0 ha rfl hv d1 kk
theorem r_alenT (C : Cx G own cc nL ret p s m args meth c) (P : Hp G o s H locs) {k i : Nat} {x : vp_A} {v : Int32} (hc : ∀ f y, ∃ g, cl0 G k i f y = .inl (aT G, x.1, g)) (hv : Int32.ofNat x.1 = v) (h : okb k i = true) (d : Dc cc pc .arraylength 1 pc') (kk : W p l e R s m args below meth c H locs cells slots Q (F0 m pc' ls (.int v :: rest))) : W p l e R s m args below meth c H locs cells slots Q (F0 m pc ls (.ref (rA G k i) :: rest)) := by
  obtain ⟨d1, rfl⟩ := d
  obtain ⟨g, hg⟩ := hc (o.1 k i) (o.2 k)
  have ha : (WS G o)[adr k i]? = some (rA G k i, .inl (aT G, (x.1, g))) := (WS_at h).trans (by unfold cel; rw [hg])
  exact va_alen C.1 C.2.1 C.2.2.2.2.2.2.1 P.1 (adr k i) 4 ha rfl hv d1 kk
theorem r_alenS (C : Cx G own cc nL ret p s m args meth c) (P : Hp G o s H locs) {k i : Nat} {x : vp_A} {v : Int32} (hc : ∀ f y, ∃ g, cl0 G k i f y = .inl (aS G, x.1, g)) (hv : Int32.ofNat x.1 = v) (h : okb k i = true) (d : Dc cc pc .arraylength 1 pc') (kk : W p l e R s m args below meth c H locs cells slots Q (F0 m pc' ls (.int v :: rest))) : W p l e R s m args below meth c H locs cells slots Q (F0 m pc ls (.ref (rA G k i) :: rest)) := by
  obtain ⟨d1, rfl⟩ := d
  obtain ⟨g, hg⟩ := hc (o.1 k i) (o.2 k)
  have ha : (WS G o)[adr k i]? = some (rA G k i, .inl (aS G, (x.1, g))) := (WS_at h).trans (by unfold cel; rw [hg])
  exact va_alen C.1 C.2.1 C.2.2.2.2.2.2.1 P.1 (adr k i) 3 ha rfl hv d1 kk
def inC (n : Int32) (N M : Nat) : Bool := decide (¬ n < 0) && (decide (n.toNatClampNeg ≤ N) && decide (n.toNatClampNeg ≤ M))
theorem r_copy (C : Cx G own cc nL ret p s m args meth c) (P : Hp G o s H locs) {k i k1 i1 N M idx : Nat} (hc : ∀ f x, cl0 G k i f x = .inl (aI G, N, .inl f)) (hc1 : ∀ f x, cl0 G k1 i1 f x = .inl (aI G, M, .inl f)) (h : okb k i = true) (h1 : okb k1 i1 = true) (w1 : Cond.methodLink own idx arraycopyName ∈ WT) (w2 : Cond.native arraycopyName ∈ WT) (w3 : Cond.static arraycopyName ∈ WT) (w4 : Cond.initialized "java/lang/System" ∈ WT) (hsz : ls.size = nL) (hR : 1 ≤ R.frames ∧ (rest.map fun v => v.category).sum + (nativeFrameWords "java/lang/System" "arraycopy" 5 + 11) ≤ R.locals) {n : Int32} (d : Dc cc pc (.invokestatic idx) 3 pc') {α : Type} {K : OM → Option α} {z : α} (hf : grd (inC n N M) (bd (wrA o k1 i1 (va_cpy (o.1 k i) (o.1 k1 i1) 0 0 n.toNatClampNeg)) K) = some z)
    (kk : ∀ o1 H1 L1, Hp G o1 s H1 L1 → K o1 = some z → W p l e R s m args below meth c H1 L1 cells slots Q (F0 m pc' ls rest)) : W p l e R s m args below meth c H locs cells slots Q (F0 m pc ls (.int n :: .int 0 :: .ref (rA G k1 i1) :: .int 0 :: .ref (rA G k i) :: rest)) := by
  obtain ⟨d1, rfl⟩ := d
  obtain ⟨g1, g2⟩ := grd_s hf
  unfold inC at g1
  rw [Bool.and_eq_true, Bool.and_eq_true] at g1
  obtain ⟨g3, g4, g5⟩ := g1
  have ha : (WS G o)[adr k i]? = some (rA G k i, .inl (aI G, N, .inl (o.1 k i))) := (WS_at h).trans (by unfold cel; rw [hc])
  have ha1 : (WS G o)[adr k1 i1]? = some (rA G k1 i1, .inl (aI G, M, .inl (o.1 k1 i1))) := (WS_at h1).trans (by unfold cel; rw [hc1])
  have hts := C.2.2.2.2.2.1
  have z0 : (0 : Int32).toNatClampNeg = 0 := by decide
  refine va_copyi C.1 C.2.1 (C.2.2.1.trans hsz.symm) C.2.2.2.2.1 (hts _ w1) (hts _ w2) (hts _ w3) (hts _ w4) C.2.2.2.2.2.2.1 P.1 (WS_D G o) P.2 (adr k i) (adr k1 i1) 0 0 ha ha1 rfl rfl rfl (by decide) (by decide) (of_decide_eq_true g3) (by rw [z0]; have := of_decide_eq_true g4; omega) (by rw [z0]; have := of_decide_eq_true g5; omega) (fun _ _ => rfl) hR.1 hR.2 d1 (fun H1 L1 q1 _ q3 => kk _ H1 L1 (P.put ?_ q1 q3) g2)
  exact WS_set h1 (by rw [cel_self, hc1, z0]) (fun a b _ hab => cel_wrA hab)
/-- what the tables say of a call -/
def CallF (st : Bool) (own : String) (idx : Nat) (y : MethodName) (bytes : ByteArray) (maxL : Nat) (ret : Option FieldType) (n : Nat) : Prop :=
  Cond.methodLink own idx y ∈ WT ∧ (if st = true then Cond.static y ∈ WT else Cond.instanceMethod y ∈ WT ∧ Cond.selects y.cls y y ∈ WT) ∧ Cond.initialized y.cls ∈ WT ∧ Cond.code y bytes maxL ret ∈ WT ∧ (y.cls ≠ "java/lang/invoke/MethodHandle" ∧ y.cls ≠ "java/lang/invoke/VarHandle") ∧ (parseMethodDescriptor y.desc).map (fun d => d.parameters.length) = some n
theorem callB_F (C : Cx G own cc nL ret p s m args meth c) {st : Bool} {idx : Nat} {y : MethodName} {bytes : ByteArray} {maxL : Nat} {rt : Option FieldType} {n : Nat} (F : CallF st own idx y bytes maxL rt n) {rm : Room} (hz : rm.cells = 0 ∧ rm.slots = 0) (hR : rm.frames + 1 ≤ R.frames ∧ 8 + (maxL + 11) + rm.locals ≤ R.locals) : CallB R s args own idx y bytes maxL rt (Cond.code y bytes maxL rt :: WT) rm 0 0 n := by
  obtain ⟨f1, f2, f3, f4, f5, f6⟩ := F
  have hts := C.2.2.2.2.2.1
  refine ⟨hz.1, hz.2, hR.1, hR.2, fun w hw a' U hW => ?_, List.mem_cons_self, hts _ f4, hts _ f3, f5, fun sig h => ?_, hts _ f1⟩
  · have hw2 : w ∈ WT := by
      rcases List.mem_cons.mp hw with h | h
      · rw [h]; exact f4
      · exact h
    exact word_at hW (wt_good w hw2) (hts w hw2)
  · rw [h] at f6
    exact (Option.some.inj f6).symm
theorem preG_S (C : Cx G own cc nL ret p s m args meth c) (P : Hp G o s H locs) {As : List Value} : PreS s H (va_Pc As (PreG G o)) As := ⟨fun a U g mk q => ⟨q.1, q.2.1, va_K.moved (u := U) (U := U.calling g mk a) (Vm.Alike.refl U.vm) q.2.2.1, q.2.2.2⟩, fun U hU hW => ⟨rfl, by rw [hU]; exact P.1, va_K.moved hW.alike C.2.2.2.2.2.2.1, by rw [hU]; exact Nat.le_trans C.2.2.2.2.2.2.2.2 P.2.1⟩⟩
theorem r_call0 {rv : Option Value} {o1 : OM} {a : Array Value} {st0 : List Value} (hr : va_Run p l e R s m args below meth c H locs cells slots 0 0 (F0 m pc ls st0) rest (QcG G rv o1 a) (fr G)) (P : Hp G o s H locs) (kk : ∀ H1 L1, Hp G o1 s H1 L1 → W p l e R s m args below meth c H1 L1 cells slots Q (F0 m (pc + 3) ls (rv.toList ++ rest))) : W p l e R s m args below meth c H locs cells slots Q (F0 m pc ls st0) := by
  intro T hT X
  obtain ⟨v, st₀, t, T', L, h0, X', hL, e1, e2, ⟨hv, hP1, hz, hk⟩, st⟩ := hr T hT X
  cases hv
  rw [h0] at hz hk
  have hS : va_S (fr G) s.heap T'.heap (locs ++ L) := ⟨Nat.le_trans P.2.1 (by rw [e1]; exact hz), fun q h1 h2 => by rw [e1, hk q (Nat.lt_of_lt_of_le h1 P.2.1) h2]; exact P.2.2.1 q h1 h2, fun q hq => by
    rcases List.mem_append.mp hq with h | h
    · exact P.2.2.2 q h
    · exact hL q h⟩
  obtain ⟨t2, a1, b1⟩ := kk T'.heap (locs ++ L) ⟨by rw [e1]; exact hP1, hS⟩ T' rfl X'
  exact ⟨t2, st t2 a1, b1⟩
theorem r_cVi (C : Cx G own cc nL ret p s m args meth c) (P : Hp G o s H locs) {idx : Nat} {y : MethodName} {bytes : ByteArray} {maxL n : Nat} {rt : Option FieldType} (F : CallF false own idx y bytes maxL rt n) {rm : Room} (k i : Nat) {ci : Nat} {q : vw_C} (hc : ∀ f x, ∃ fs, cl0 G k i f x = .inr (ci, fs)) (hq : vwCl[ci]? = some q) (hy : y.cls = q.1) (hk : okb k i = true) (As rest : List Value) {st0 : List Value} {α : Type} {FF : Option (Int32 × OM)} {K : Int32 → OM → Option α} {z : α} (hf : bn FF K = some z)
    (hM : ∀ r o1, FF = some (r, o1) → Ct l y bytes maxL rt rm G (.ref (rA G k i) :: As) o (some (.int r)) o1) (hz : rm.cells = 0 ∧ rm.slots = 0) (hR : rm.frames + 1 ≤ R.frames ∧ 8 + (maxL + 11) + rm.locals ≤ R.locals) (hcs : cells ≤ R.cells ∧ slots ≤ R.slots) (hn : As.length = n) (hst : st0 = As.reverse ++ .ref (rA G k i) :: rest) (hsz : ls.size = nL) (hw : (rest.map fun v => v.category).sum ≤ 8) (d : Dc cc pc (.invokevirtual idx) 3 pc')
    (kk : ∀ r o1 H1 L1, Hp G o1 s H1 L1 → K r o1 = some z → W p l e R s m args below meth c H1 L1 cells slots Q (F0 m pc' ls (.int r :: rest))) : W p l e R s m args below meth c H locs cells slots Q (F0 m pc ls st0) := by
  obtain ⟨d1, rfl⟩ := d
  obtain ⟨r, o1, g1, g2⟩ := bn_s hf
  have hb := callB_F C F hz hR
  have hb' := F.2.1
  rw [if_neg (by decide)] at hb'
  have hts := C.2.2.2.2.2.1
  obtain ⟨fs, hfs⟩ := hc (o.1 k i) (o.2 k)
  have ha : (WS G o)[adr k i]? = some (rA G k i, .inr (ci, fs)) := (WS_at hk).trans (by unfold cel; rw [hfs])
  have hv := va_recv C.2.2.2.2.2.2.1 P.1 hq ha
  rw [← hy] at hv
  have hp := preG_S C P (As := .ref (rA G k i) :: As)
  have hM' := hM r o1 g1
  unfold Ct at hM'
  rw [hz.1, hz.2] at hM'
  refine r_call0 (va_runV (C := y.cls) (b := rA G k i) (As := As) (rest := rest) ⟨C.1, C.2.1, C.2.2.1, C.2.2.2.2.1, hts⟩ hM' ⟨hb, hts _ hb'.1, hts _ hb'.2⟩ ⟨hp.1, hv, hp.2⟩ rfl hn hsz hst (lv_room hw) d1 hcs) P (fun H1 L1 h1 => kk r o1 H1 L1 h1 g2)
theorem r_cSi (C : Cx G own cc nL ret p s m args meth c) (P : Hp G o s H locs) {idx : Nat} {y : MethodName} {bytes : ByteArray} {maxL n : Nat} {rt : Option FieldType} (F : CallF true own idx y bytes maxL rt n) {rm : Room} (As rest : List Value) {st0 : List Value} {α : Type} {FF : Option (Int32 × OM)} {K : Int32 → OM → Option α} {z : α} (hf : bn FF K = some z)
    (hM : ∀ r o1, FF = some (r, o1) → Ct l y bytes maxL rt rm G As o (some (.int r)) o1) (hz : rm.cells = 0 ∧ rm.slots = 0) (hR : rm.frames + 1 ≤ R.frames ∧ 8 + (maxL + 11) + rm.locals ≤ R.locals) (hcs : cells ≤ R.cells ∧ slots ≤ R.slots) (hn : As.length = n) (hst : st0 = As.reverse ++ rest) (hsz : ls.size = nL) (hw : (rest.map fun v => v.category).sum ≤ 8) (d : Dc cc pc (.invokestatic idx) 3 pc')
    (kk : ∀ r o1 H1 L1, Hp G o1 s H1 L1 → K r o1 = some z → W p l e R s m args below meth c H1 L1 cells slots Q (F0 m pc' ls (.int r :: rest))) : W p l e R s m args below meth c H locs cells slots Q (F0 m pc ls st0) := by
  obtain ⟨d1, rfl⟩ := d
  obtain ⟨r, o1, g1, g2⟩ := bn_s hf
  have hb := callB_F C F hz hR
  have hb' := F.2.1
  rw [if_pos rfl] at hb'
  have hts := C.2.2.2.2.2.1
  have hp := preG_S C P (As := As)
  have hM' := hM r o1 g1
  unfold Ct at hM'
  rw [hz.1, hz.2] at hM'
  refine r_call0 (va_runS (As := As) (rest := rest) ⟨C.1, C.2.1, C.2.2.1, C.2.2.2.2.1, hts⟩ hM' ⟨hb, hts _ hb'⟩ hp rfl hn hsz hst (lv_room hw) d1 hcs) P (fun H1 L1 h1 => kk r o1 H1 L1 h1 g2)
theorem r_cVl (C : Cx G own cc nL ret p s m args meth c) (P : Hp G o s H locs) {idx : Nat} {y : MethodName} {bytes : ByteArray} {maxL n : Nat} {rt : Option FieldType} (F : CallF false own idx y bytes maxL rt n) {rm : Room} (k i : Nat) {ci : Nat} {q : vw_C} (hc : ∀ f x, ∃ fs, cl0 G k i f x = .inr (ci, fs)) (hq : vwCl[ci]? = some q) (hy : y.cls = q.1) (hk : okb k i = true) (As rest : List Value) {st0 : List Value} {α : Type} {FF : Option (Int64 × OM)} {K : Int64 → OM → Option α} {z : α} (hf : bn FF K = some z)
    (hM : ∀ r o1, FF = some (r, o1) → Ct l y bytes maxL rt rm G (.ref (rA G k i) :: As) o (some (.long r)) o1) (hz : rm.cells = 0 ∧ rm.slots = 0) (hR : rm.frames + 1 ≤ R.frames ∧ 8 + (maxL + 11) + rm.locals ≤ R.locals) (hcs : cells ≤ R.cells ∧ slots ≤ R.slots) (hn : As.length = n) (hst : st0 = As.reverse ++ .ref (rA G k i) :: rest) (hsz : ls.size = nL) (hw : (rest.map fun v => v.category).sum ≤ 8) (d : Dc cc pc (.invokevirtual idx) 3 pc')
    (kk : ∀ r o1 H1 L1, Hp G o1 s H1 L1 → K r o1 = some z → W p l e R s m args below meth c H1 L1 cells slots Q (F0 m pc' ls (.long r :: rest))) : W p l e R s m args below meth c H locs cells slots Q (F0 m pc ls st0) := by
  obtain ⟨d1, rfl⟩ := d
  obtain ⟨r, o1, g1, g2⟩ := bn_s hf
  have hb := callB_F C F hz hR
  have hb' := F.2.1
  rw [if_neg (by decide)] at hb'
  have hts := C.2.2.2.2.2.1
  obtain ⟨fs, hfs⟩ := hc (o.1 k i) (o.2 k)
  have ha : (WS G o)[adr k i]? = some (rA G k i, .inr (ci, fs)) := (WS_at hk).trans (by unfold cel; rw [hfs])
  have hv := va_recv C.2.2.2.2.2.2.1 P.1 hq ha
  rw [← hy] at hv
  have hp := preG_S C P (As := .ref (rA G k i) :: As)
  have hM' := hM r o1 g1
  unfold Ct at hM'
  rw [hz.1, hz.2] at hM'
  refine r_call0 (va_runV (C := y.cls) (b := rA G k i) (As := As) (rest := rest) ⟨C.1, C.2.1, C.2.2.1, C.2.2.2.2.1, hts⟩ hM' ⟨hb, hts _ hb'.1, hts _ hb'.2⟩ ⟨hp.1, hv, hp.2⟩ rfl hn hsz hst (lv_room hw) d1 hcs) P (fun H1 L1 h1 => kk r o1 H1 L1 h1 g2)
theorem r_cSl (C : Cx G own cc nL ret p s m args meth c) (P : Hp G o s H locs) {idx : Nat} {y : MethodName} {bytes : ByteArray} {maxL n : Nat} {rt : Option FieldType} (F : CallF true own idx y bytes maxL rt n) {rm : Room} (As rest : List Value) {st0 : List Value} {α : Type} {FF : Option (Int64 × OM)} {K : Int64 → OM → Option α} {z : α} (hf : bn FF K = some z)
    (hM : ∀ r o1, FF = some (r, o1) → Ct l y bytes maxL rt rm G As o (some (.long r)) o1) (hz : rm.cells = 0 ∧ rm.slots = 0) (hR : rm.frames + 1 ≤ R.frames ∧ 8 + (maxL + 11) + rm.locals ≤ R.locals) (hcs : cells ≤ R.cells ∧ slots ≤ R.slots) (hn : As.length = n) (hst : st0 = As.reverse ++ rest) (hsz : ls.size = nL) (hw : (rest.map fun v => v.category).sum ≤ 8) (d : Dc cc pc (.invokestatic idx) 3 pc')
    (kk : ∀ r o1 H1 L1, Hp G o1 s H1 L1 → K r o1 = some z → W p l e R s m args below meth c H1 L1 cells slots Q (F0 m pc' ls (.long r :: rest))) : W p l e R s m args below meth c H locs cells slots Q (F0 m pc ls st0) := by
  obtain ⟨d1, rfl⟩ := d
  obtain ⟨r, o1, g1, g2⟩ := bn_s hf
  have hb := callB_F C F hz hR
  have hb' := F.2.1
  rw [if_pos rfl] at hb'
  have hts := C.2.2.2.2.2.1
  have hp := preG_S C P (As := As)
  have hM' := hM r o1 g1
  unfold Ct at hM'
  rw [hz.1, hz.2] at hM'
  refine r_call0 (va_runS (As := As) (rest := rest) ⟨C.1, C.2.1, C.2.2.1, C.2.2.2.2.1, hts⟩ hM' ⟨hb, hts _ hb'⟩ hp rfl hn hsz hst (lv_room hw) d1 hcs) P (fun H1 L1 h1 => kk r o1 H1 L1 h1 g2)
theorem r_cVd (C : Cx G own cc nL ret p s m args meth c) (P : Hp G o s H locs) {idx : Nat} {y : MethodName} {bytes : ByteArray} {maxL n : Nat} {rt : Option FieldType} (F : CallF false own idx y bytes maxL rt n) {rm : Room} (k i : Nat) {ci : Nat} {q : vw_C} (hc : ∀ f x, ∃ fs, cl0 G k i f x = .inr (ci, fs)) (hq : vwCl[ci]? = some q) (hy : y.cls = q.1) (hk : okb k i = true) (As rest : List Value) {st0 : List Value} {α : Type} {FF : Option (UInt64 × OM)} {K : UInt64 → OM → Option α} {z : α} (hf : bn FF K = some z)
    (hM : ∀ r o1, FF = some (r, o1) → Ct l y bytes maxL rt rm G (.ref (rA G k i) :: As) o (some (.double r)) o1) (hz : rm.cells = 0 ∧ rm.slots = 0) (hR : rm.frames + 1 ≤ R.frames ∧ 8 + (maxL + 11) + rm.locals ≤ R.locals) (hcs : cells ≤ R.cells ∧ slots ≤ R.slots) (hn : As.length = n) (hst : st0 = As.reverse ++ .ref (rA G k i) :: rest) (hsz : ls.size = nL) (hw : (rest.map fun v => v.category).sum ≤ 8) (d : Dc cc pc (.invokevirtual idx) 3 pc')
    (kk : ∀ r o1 H1 L1, Hp G o1 s H1 L1 → K r o1 = some z → W p l e R s m args below meth c H1 L1 cells slots Q (F0 m pc' ls (.double r :: rest))) : W p l e R s m args below meth c H locs cells slots Q (F0 m pc ls st0) := by
  obtain ⟨d1, rfl⟩ := d
  obtain ⟨r, o1, g1, g2⟩ := bn_s hf
  have hb := callB_F C F hz hR
  have hb' := F.2.1
  rw [if_neg (by decide)] at hb'
  have hts := C.2.2.2.2.2.1
  obtain ⟨fs, hfs⟩ := hc (o.1 k i) (o.2 k)
  have ha : (WS G o)[adr k i]? = some (rA G k i, .inr (ci, fs)) := (WS_at hk).trans (by unfold cel; rw [hfs])
  have hv := va_recv C.2.2.2.2.2.2.1 P.1 hq ha
  rw [← hy] at hv
  have hp := preG_S C P (As := .ref (rA G k i) :: As)
  have hM' := hM r o1 g1
  unfold Ct at hM'
  rw [hz.1, hz.2] at hM'
  refine r_call0 (va_runV (C := y.cls) (b := rA G k i) (As := As) (rest := rest) ⟨C.1, C.2.1, C.2.2.1, C.2.2.2.2.1, hts⟩ hM' ⟨hb, hts _ hb'.1, hts _ hb'.2⟩ ⟨hp.1, hv, hp.2⟩ rfl hn hsz hst (lv_room hw) d1 hcs) P (fun H1 L1 h1 => kk r o1 H1 L1 h1 g2)
theorem r_cSd (C : Cx G own cc nL ret p s m args meth c) (P : Hp G o s H locs) {idx : Nat} {y : MethodName} {bytes : ByteArray} {maxL n : Nat} {rt : Option FieldType} (F : CallF true own idx y bytes maxL rt n) {rm : Room} (As rest : List Value) {st0 : List Value} {α : Type} {FF : Option (UInt64 × OM)} {K : UInt64 → OM → Option α} {z : α} (hf : bn FF K = some z)
    (hM : ∀ r o1, FF = some (r, o1) → Ct l y bytes maxL rt rm G As o (some (.double r)) o1) (hz : rm.cells = 0 ∧ rm.slots = 0) (hR : rm.frames + 1 ≤ R.frames ∧ 8 + (maxL + 11) + rm.locals ≤ R.locals) (hcs : cells ≤ R.cells ∧ slots ≤ R.slots) (hn : As.length = n) (hst : st0 = As.reverse ++ rest) (hsz : ls.size = nL) (hw : (rest.map fun v => v.category).sum ≤ 8) (d : Dc cc pc (.invokestatic idx) 3 pc')
    (kk : ∀ r o1 H1 L1, Hp G o1 s H1 L1 → K r o1 = some z → W p l e R s m args below meth c H1 L1 cells slots Q (F0 m pc' ls (.double r :: rest))) : W p l e R s m args below meth c H locs cells slots Q (F0 m pc ls st0) := by
  obtain ⟨d1, rfl⟩ := d
  obtain ⟨r, o1, g1, g2⟩ := bn_s hf
  have hb := callB_F C F hz hR
  have hb' := F.2.1
  rw [if_pos rfl] at hb'
  have hts := C.2.2.2.2.2.1
  have hp := preG_S C P (As := As)
  have hM' := hM r o1 g1
  unfold Ct at hM'
  rw [hz.1, hz.2] at hM'
  refine r_call0 (va_runS (As := As) (rest := rest) ⟨C.1, C.2.1, C.2.2.1, C.2.2.2.2.1, hts⟩ hM' ⟨hb, hts _ hb'⟩ hp rfl hn hsz hst (lv_room hw) d1 hcs) P (fun H1 L1 h1 => kk r o1 H1 L1 h1 g2)
theorem r_cVv (C : Cx G own cc nL ret p s m args meth c) (P : Hp G o s H locs) {idx : Nat} {y : MethodName} {bytes : ByteArray} {maxL n : Nat} {rt : Option FieldType} (F : CallF false own idx y bytes maxL rt n) {rm : Room} (k i : Nat) {ci : Nat} {q : vw_C} (hc : ∀ f x, ∃ fs, cl0 G k i f x = .inr (ci, fs)) (hq : vwCl[ci]? = some q) (hy : y.cls = q.1) (hk : okb k i = true) (As rest : List Value) {st0 : List Value} {α : Type} {FF : Option (Unit × OM)} {K : Unit → OM → Option α} {z : α} (hf : bn FF K = some z)
    (hM : ∀ r o1, FF = some (r, o1) → Ct l y bytes maxL rt rm G (.ref (rA G k i) :: As) o (none) o1) (hz : rm.cells = 0 ∧ rm.slots = 0) (hR : rm.frames + 1 ≤ R.frames ∧ 8 + (maxL + 11) + rm.locals ≤ R.locals) (hcs : cells ≤ R.cells ∧ slots ≤ R.slots) (hn : As.length = n) (hst : st0 = As.reverse ++ .ref (rA G k i) :: rest) (hsz : ls.size = nL) (hw : (rest.map fun v => v.category).sum ≤ 8) (d : Dc cc pc (.invokevirtual idx) 3 pc')
    (kk : ∀ r o1 H1 L1, Hp G o1 s H1 L1 → K r o1 = some z → W p l e R s m args below meth c H1 L1 cells slots Q (F0 m pc' ls (rest))) : W p l e R s m args below meth c H locs cells slots Q (F0 m pc ls st0) := by
  obtain ⟨d1, rfl⟩ := d
  obtain ⟨r, o1, g1, g2⟩ := bn_s hf
  have hb := callB_F C F hz hR
  have hb' := F.2.1
  rw [if_neg (by decide)] at hb'
  have hts := C.2.2.2.2.2.1
  obtain ⟨fs, hfs⟩ := hc (o.1 k i) (o.2 k)
  have ha : (WS G o)[adr k i]? = some (rA G k i, .inr (ci, fs)) := (WS_at hk).trans (by unfold cel; rw [hfs])
  have hv := va_recv C.2.2.2.2.2.2.1 P.1 hq ha
  rw [← hy] at hv
  have hp := preG_S C P (As := .ref (rA G k i) :: As)
  have hM' := hM r o1 g1
  unfold Ct at hM'
  rw [hz.1, hz.2] at hM'
  refine r_call0 (va_runV (C := y.cls) (b := rA G k i) (As := As) (rest := rest) ⟨C.1, C.2.1, C.2.2.1, C.2.2.2.2.1, hts⟩ hM' ⟨hb, hts _ hb'.1, hts _ hb'.2⟩ ⟨hp.1, hv, hp.2⟩ rfl hn hsz hst (lv_room hw) d1 hcs) P (fun H1 L1 h1 => kk r o1 H1 L1 h1 g2)
theorem r_cSv (C : Cx G own cc nL ret p s m args meth c) (P : Hp G o s H locs) {idx : Nat} {y : MethodName} {bytes : ByteArray} {maxL n : Nat} {rt : Option FieldType} (F : CallF true own idx y bytes maxL rt n) {rm : Room} (As rest : List Value) {st0 : List Value} {α : Type} {FF : Option (Unit × OM)} {K : Unit → OM → Option α} {z : α} (hf : bn FF K = some z)
    (hM : ∀ r o1, FF = some (r, o1) → Ct l y bytes maxL rt rm G As o (none) o1) (hz : rm.cells = 0 ∧ rm.slots = 0) (hR : rm.frames + 1 ≤ R.frames ∧ 8 + (maxL + 11) + rm.locals ≤ R.locals) (hcs : cells ≤ R.cells ∧ slots ≤ R.slots) (hn : As.length = n) (hst : st0 = As.reverse ++ rest) (hsz : ls.size = nL) (hw : (rest.map fun v => v.category).sum ≤ 8) (d : Dc cc pc (.invokestatic idx) 3 pc')
    (kk : ∀ r o1 H1 L1, Hp G o1 s H1 L1 → K r o1 = some z → W p l e R s m args below meth c H1 L1 cells slots Q (F0 m pc' ls (rest))) : W p l e R s m args below meth c H locs cells slots Q (F0 m pc ls st0) := by
  obtain ⟨d1, rfl⟩ := d
  obtain ⟨r, o1, g1, g2⟩ := bn_s hf
  have hb := callB_F C F hz hR
  have hb' := F.2.1
  rw [if_pos rfl] at hb'
  have hts := C.2.2.2.2.2.1
  have hp := preG_S C P (As := As)
  have hM' := hM r o1 g1
  unfold Ct at hM'
  rw [hz.1, hz.2] at hM'
  refine r_call0 (va_runS (As := As) (rest := rest) ⟨C.1, C.2.1, C.2.2.1, C.2.2.2.2.1, hts⟩ hM' ⟨hb, hts _ hb'⟩ hp rfl hn hsz hst (lv_room hw) d1 hcs) P (fun H1 L1 h1 => kk r o1 H1 L1 h1 g2)
theorem gf_0_0 (C : Cx G own cc nL ret p s m args meth c) (P : Hp G o s H locs) {i idx : Nat} (hk : okb 0 i = true) (hw : Cond.fieldLink own idx "ThawPoints" "state" "LThawPoints$State;" ∈ WT) (d : Dc cc pc (.getfield idx) 3 pc') (kk : W p l e R s m args below meth c H locs cells slots Q (F0 m pc' ls (.ref (rA G 1 0) :: rest))) : W p l e R s m args below meth c H locs cells slots Q (F0 m pc ls (.ref (rA G 0 i) :: rest)) := by
  obtain ⟨d1, rfl⟩ := d
  exact va_get (ref := "ThawPoints") (T := TX5) (N := 5) C.1 C.2.1 C.2.2.2.2.2.1 in_X5 C.2.2.2.2.1 C.2.2.2.2.2.2.1 P.1 (adr 0 i) (WS_at hk) rfl 0 (by decide) (C.2.2.2.2.2.1 _ hw) (fun _ h9 => h9) rfl d1 kk
theorem gf_0_1 (C : Cx G own cc nL ret p s m args meth c) (P : Hp G o s H locs) {i idx : Nat} (hk : okb 0 i = true) (hw : Cond.fieldLink own idx "ThawPoints" "snapshot" "LThawPoints$State;" ∈ WT) (d : Dc cc pc (.getfield idx) 3 pc') (kk : W p l e R s m args below meth c H locs cells slots Q (F0 m pc' ls (.ref (rA G 1 1) :: rest))) : W p l e R s m args below meth c H locs cells slots Q (F0 m pc ls (.ref (rA G 0 i) :: rest)) := by
  obtain ⟨d1, rfl⟩ := d
  exact va_get (ref := "ThawPoints") (T := TX5) (N := 5) C.1 C.2.1 C.2.2.2.2.2.1 in_X5 C.2.2.2.2.1 C.2.2.2.2.2.2.1 P.1 (adr 0 i) (WS_at hk) rfl 1 (by decide) (C.2.2.2.2.2.1 _ hw) (fun _ h9 => h9) rfl d1 kk
theorem gf_0_2 (C : Cx G own cc nL ret p s m args meth c) (P : Hp G o s H locs) {i idx : Nat} (hk : okb 0 i = true) (hw : Cond.fieldLink own idx "ThawPoints" "history" "LThawPoints$History;" ∈ WT) (d : Dc cc pc (.getfield idx) 3 pc') (kk : W p l e R s m args below meth c H locs cells slots Q (F0 m pc' ls (.ref (rA G 14 0) :: rest))) : W p l e R s m args below meth c H locs cells slots Q (F0 m pc ls (.ref (rA G 0 i) :: rest)) := by
  obtain ⟨d1, rfl⟩ := d
  exact va_get (ref := "ThawPoints") (T := TX5) (N := 5) C.1 C.2.1 C.2.2.2.2.2.1 in_X5 C.2.2.2.2.1 C.2.2.2.2.2.2.1 P.1 (adr 0 i) (WS_at hk) rfl 2 (by decide) (C.2.2.2.2.2.1 _ hw) (fun _ h9 => h9) rfl d1 kk
theorem gf_0_3 (C : Cx G own cc nL ret p s m args meth c) (P : Hp G o s H locs) {i idx : Nat} (hk : okb 0 i = true) (hw : Cond.fieldLink own idx "ThawPoints" "works" "LThawPoints$Works;" ∈ WT) (d : Dc cc pc (.getfield idx) 3 pc') (kk : W p l e R s m args below meth c H locs cells slots Q (F0 m pc' ls (.ref (rA G 16 0) :: rest))) : W p l e R s m args below meth c H locs cells slots Q (F0 m pc ls (.ref (rA G 0 i) :: rest)) := by
  obtain ⟨d1, rfl⟩ := d
  exact va_get (ref := "ThawPoints") (T := TX5) (N := 5) C.1 C.2.1 C.2.2.2.2.2.1 in_X5 C.2.2.2.2.1 C.2.2.2.2.2.2.1 P.1 (adr 0 i) (WS_at hk) rfl 3 (by decide) (C.2.2.2.2.2.1 _ hw) (fun _ h9 => h9) rfl d1 kk
theorem gf_0_4 (C : Cx G own cc nL ret p s m args meth c) (P : Hp G o s H locs) {i idx : Nat} (hk : okb 0 i = true) (hw : Cond.fieldLink own idx "ThawPoints" "snapshotTaken" "Z" ∈ WT) (d : Dc cc pc (.getfield idx) 3 pc') (kk : W p l e R s m args below meth c H locs cells slots Q (F0 m pc' ls (.int (rd o 0 i 4) :: rest))) : W p l e R s m args below meth c H locs cells slots Q (F0 m pc ls (.ref (rA G 0 i) :: rest)) := by
  obtain ⟨d1, rfl⟩ := d
  exact va_get (ref := "ThawPoints") (T := TX5) (N := 5) C.1 C.2.1 C.2.2.2.2.2.1 in_X5 C.2.2.2.2.1 C.2.2.2.2.2.2.1 P.1 (adr 0 i) (WS_at hk) rfl 4 (by decide) (C.2.2.2.2.2.1 _ hw) (fun _ h9 => h9) rfl d1 kk
theorem pf_0_4 (C : Cx G own cc nL ret p s m args meth c) (P : Hp G o s H locs) {i idx : Nat} {x : Int32} (hk : okb 0 i = true) (hw : Cond.fieldLink own idx "ThawPoints" "snapshotTaken" "Z" ∈ WT) (d : Dc cc pc (.putfield idx) 3 pc') {α : Type} {K : OM → Option α} {z : α} (hf : grd (isZ x) (bd (wr o 0 i 4 x) K) = some z) (kk : ∀ o1 H1 L1, Hp G o1 s H1 L1 → K o1 = some z → W p l e R s m args below meth c H1 L1 cells slots Q (F0 m pc' ls rest)) : W p l e R s m args below meth c H locs cells slots Q (F0 m pc ls (.int x :: .ref (rA G 0 i) :: rest)) := by
  obtain ⟨d1, rfl⟩ := d
  obtain ⟨g1, g2⟩ := grd_s hf
  have hb : narrow .boolean (.int x) = .int x ∧ fits .boolean (.int x) = true := by
    unfold isZ at g1
    rcases Bool.or_eq_true _ _ ▸ g1 with h | h <;> (rw [of_decide_eq_true h]; exact ⟨rfl, rfl⟩)
  refine va_put (ref := "ThawPoints") (T := TX5) (N := 5) (ty := .boolean) (v := .int x) C.1 C.2.1 C.2.2.2.2.2.1 in_X5 tyX5 tyX5_ok nmX5 C.2.2.2.2.1 C.2.2.2.2.2.2.1 P.1 (WS_D G o) P.2 (adr 0 i) (WS_at hk) rfl 4 (by decide) (C.2.2.2.2.2.1 _ hw) (fun _ h9 => h9) rfl (by decide +kernel) hb.1 hb.2 (Nat.le_of_ble_eq_true rfl) d1 (fun H1 L1 h1 _ h3 => kk (wr o 0 i 4 x) H1 L1 (P.put ?_ h1 h3) g2)
  refine WS_set hk ?_ (fun a b _ hab => by unfold wr; exact cel_wrA hab)
  unfold wr
  rw [cel_self]
  rfl
theorem gf_1_0 (C : Cx G own cc nL ret p s m args meth c) (P : Hp G o s H locs) {i idx : Nat} (hk : okb 1 i = true) (hw : Cond.fieldLink own idx "ThawPoints$State" "year" "I" ∈ WT) (d : Dc cc pc (.getfield idx) 3 pc') (kk : W p l e R s m args below meth c H locs cells slots Q (F0 m pc' ls (.int (rd o 1 i 0) :: rest))) : W p l e R s m args below meth c H locs cells slots Q (F0 m pc ls (.ref (rA G 1 i) :: rest)) := by
  obtain ⟨d1, rfl⟩ := d
  exact va_get (ref := "ThawPoints$State") (T := TX2) (N := 8) C.1 C.2.1 C.2.2.2.2.2.1 in_X2 C.2.2.2.2.1 C.2.2.2.2.2.2.1 P.1 (adr 1 i) (WS_at hk) rfl 0 (by decide) (C.2.2.2.2.2.1 _ hw) (fun _ h9 => h9) rfl d1 kk
theorem pf_1_0 (C : Cx G own cc nL ret p s m args meth c) (P : Hp G o s H locs) {i idx : Nat} {x : Int32} (hk : okb 1 i = true) (hw : Cond.fieldLink own idx "ThawPoints$State" "year" "I" ∈ WT) (d : Dc cc pc (.putfield idx) 3 pc') {β : Type} {K : OM → β} {z : β} (hf : bd (wr o 1 i 0 x) K = z) (kk : ∀ o1 H1 L1, Hp G o1 s H1 L1 → K o1 = z → W p l e R s m args below meth c H1 L1 cells slots Q (F0 m pc' ls rest)) : W p l e R s m args below meth c H locs cells slots Q (F0 m pc ls (.int x :: .ref (rA G 1 i) :: rest)) := by
  obtain ⟨d1, rfl⟩ := d
  refine va_put (ref := "ThawPoints$State") (T := TX2) (N := 8) (ty := .int) (v := .int x) C.1 C.2.1 C.2.2.2.2.2.1 in_X2 tyX2 tyX2_ok nmX2 C.2.2.2.2.1 C.2.2.2.2.2.2.1 P.1 (WS_D G o) P.2 (adr 1 i) (WS_at hk) rfl 0 (by decide) (C.2.2.2.2.2.1 _ hw) (fun _ h9 => h9) rfl (by decide +kernel) rfl rfl (Nat.le_of_ble_eq_true rfl) d1 (fun H1 L1 h1 _ h3 => kk (wr o 1 i 0 x) H1 L1 (P.put ?_ h1 h3) hf)
  refine WS_set hk ?_ (fun a b _ hab => by unfold wr; exact cel_wrA hab)
  unfold wr
  rw [cel_self]
  rfl
theorem gf_1_1 (C : Cx G own cc nL ret p s m args meth c) (P : Hp G o s H locs) {i idx : Nat} (hk : okb 1 i = true) (hw : Cond.fieldLink own idx "ThawPoints$State" "seals" "I" ∈ WT) (d : Dc cc pc (.getfield idx) 3 pc') (kk : W p l e R s m args below meth c H locs cells slots Q (F0 m pc' ls (.int (rd o 1 i 1) :: rest))) : W p l e R s m args below meth c H locs cells slots Q (F0 m pc ls (.ref (rA G 1 i) :: rest)) := by
  obtain ⟨d1, rfl⟩ := d
  exact va_get (ref := "ThawPoints$State") (T := TX2) (N := 8) C.1 C.2.1 C.2.2.2.2.2.1 in_X2 C.2.2.2.2.1 C.2.2.2.2.2.2.1 P.1 (adr 1 i) (WS_at hk) rfl 1 (by decide) (C.2.2.2.2.2.1 _ hw) (fun _ h9 => h9) rfl d1 kk
theorem pf_1_1 (C : Cx G own cc nL ret p s m args meth c) (P : Hp G o s H locs) {i idx : Nat} {x : Int32} (hk : okb 1 i = true) (hw : Cond.fieldLink own idx "ThawPoints$State" "seals" "I" ∈ WT) (d : Dc cc pc (.putfield idx) 3 pc') {β : Type} {K : OM → β} {z : β} (hf : bd (wr o 1 i 1 x) K = z) (kk : ∀ o1 H1 L1, Hp G o1 s H1 L1 → K o1 = z → W p l e R s m args below meth c H1 L1 cells slots Q (F0 m pc' ls rest)) : W p l e R s m args below meth c H locs cells slots Q (F0 m pc ls (.int x :: .ref (rA G 1 i) :: rest)) := by
  obtain ⟨d1, rfl⟩ := d
  refine va_put (ref := "ThawPoints$State") (T := TX2) (N := 8) (ty := .int) (v := .int x) C.1 C.2.1 C.2.2.2.2.2.1 in_X2 tyX2 tyX2_ok nmX2 C.2.2.2.2.1 C.2.2.2.2.2.2.1 P.1 (WS_D G o) P.2 (adr 1 i) (WS_at hk) rfl 1 (by decide) (C.2.2.2.2.2.1 _ hw) (fun _ h9 => h9) rfl (by decide +kernel) rfl rfl (Nat.le_of_ble_eq_true rfl) d1 (fun H1 L1 h1 _ h3 => kk (wr o 1 i 1 x) H1 L1 (P.put ?_ h1 h3) hf)
  refine WS_set hk ?_ (fun a b _ hab => by unfold wr; exact cel_wrA hab)
  unfold wr
  rw [cel_self]
  rfl
theorem gf_1_2 (C : Cx G own cc nL ret p s m args meth c) (P : Hp G o s H locs) {i idx : Nat} (hk : okb 1 i = true) (hw : Cond.fieldLink own idx "ThawPoints$State" "size" "I" ∈ WT) (d : Dc cc pc (.getfield idx) 3 pc') (kk : W p l e R s m args below meth c H locs cells slots Q (F0 m pc' ls (.int (rd o 1 i 2) :: rest))) : W p l e R s m args below meth c H locs cells slots Q (F0 m pc ls (.ref (rA G 1 i) :: rest)) := by
  obtain ⟨d1, rfl⟩ := d
  exact va_get (ref := "ThawPoints$State") (T := TX2) (N := 8) C.1 C.2.1 C.2.2.2.2.2.1 in_X2 C.2.2.2.2.1 C.2.2.2.2.2.2.1 P.1 (adr 1 i) (WS_at hk) rfl 2 (by decide) (C.2.2.2.2.2.1 _ hw) (fun _ h9 => h9) rfl d1 kk
theorem pf_1_2 (C : Cx G own cc nL ret p s m args meth c) (P : Hp G o s H locs) {i idx : Nat} {x : Int32} (hk : okb 1 i = true) (hw : Cond.fieldLink own idx "ThawPoints$State" "size" "I" ∈ WT) (d : Dc cc pc (.putfield idx) 3 pc') {β : Type} {K : OM → β} {z : β} (hf : bd (wr o 1 i 2 x) K = z) (kk : ∀ o1 H1 L1, Hp G o1 s H1 L1 → K o1 = z → W p l e R s m args below meth c H1 L1 cells slots Q (F0 m pc' ls rest)) : W p l e R s m args below meth c H locs cells slots Q (F0 m pc ls (.int x :: .ref (rA G 1 i) :: rest)) := by
  obtain ⟨d1, rfl⟩ := d
  refine va_put (ref := "ThawPoints$State") (T := TX2) (N := 8) (ty := .int) (v := .int x) C.1 C.2.1 C.2.2.2.2.2.1 in_X2 tyX2 tyX2_ok nmX2 C.2.2.2.2.1 C.2.2.2.2.2.2.1 P.1 (WS_D G o) P.2 (adr 1 i) (WS_at hk) rfl 2 (by decide) (C.2.2.2.2.2.1 _ hw) (fun _ h9 => h9) rfl (by decide +kernel) rfl rfl (Nat.le_of_ble_eq_true rfl) d1 (fun H1 L1 h1 _ h3 => kk (wr o 1 i 2 x) H1 L1 (P.put ?_ h1 h3) hf)
  refine WS_set hk ?_ (fun a b _ hab => by unfold wr; exact cel_wrA hab)
  unfold wr
  rw [cel_self]
  rfl
theorem gf_1_3 (C : Cx G own cc nL ret p s m args meth c) (P : Hp G o s H locs) {i idx : Nat} (hk : okb 1 i = true) (hw : Cond.fieldLink own idx "ThawPoints$State" "stopPart" "I" ∈ WT) (d : Dc cc pc (.getfield idx) 3 pc') (kk : W p l e R s m args below meth c H locs cells slots Q (F0 m pc' ls (.int (rd o 1 i 3) :: rest))) : W p l e R s m args below meth c H locs cells slots Q (F0 m pc ls (.ref (rA G 1 i) :: rest)) := by
  obtain ⟨d1, rfl⟩ := d
  exact va_get (ref := "ThawPoints$State") (T := TX2) (N := 8) C.1 C.2.1 C.2.2.2.2.2.1 in_X2 C.2.2.2.2.1 C.2.2.2.2.2.2.1 P.1 (adr 1 i) (WS_at hk) rfl 3 (by decide) (C.2.2.2.2.2.1 _ hw) (fun _ h9 => h9) rfl d1 kk
theorem pf_1_3 (C : Cx G own cc nL ret p s m args meth c) (P : Hp G o s H locs) {i idx : Nat} {x : Int32} (hk : okb 1 i = true) (hw : Cond.fieldLink own idx "ThawPoints$State" "stopPart" "I" ∈ WT) (d : Dc cc pc (.putfield idx) 3 pc') {β : Type} {K : OM → β} {z : β} (hf : bd (wr o 1 i 3 x) K = z) (kk : ∀ o1 H1 L1, Hp G o1 s H1 L1 → K o1 = z → W p l e R s m args below meth c H1 L1 cells slots Q (F0 m pc' ls rest)) : W p l e R s m args below meth c H locs cells slots Q (F0 m pc ls (.int x :: .ref (rA G 1 i) :: rest)) := by
  obtain ⟨d1, rfl⟩ := d
  refine va_put (ref := "ThawPoints$State") (T := TX2) (N := 8) (ty := .int) (v := .int x) C.1 C.2.1 C.2.2.2.2.2.1 in_X2 tyX2 tyX2_ok nmX2 C.2.2.2.2.1 C.2.2.2.2.2.2.1 P.1 (WS_D G o) P.2 (adr 1 i) (WS_at hk) rfl 3 (by decide) (C.2.2.2.2.2.1 _ hw) (fun _ h9 => h9) rfl (by decide +kernel) rfl rfl (Nat.le_of_ble_eq_true rfl) d1 (fun H1 L1 h1 _ h3 => kk (wr o 1 i 3 x) H1 L1 (P.put ?_ h1 h3) hf)
  refine WS_set hk ?_ (fun a b _ hab => by unfold wr; exact cel_wrA hab)
  unfold wr
  rw [cel_self]
  rfl
theorem gf_1_4 (C : Cx G own cc nL ret p s m args meth c) (P : Hp G o s H locs) {i idx : Nat} (hk : okb 1 i = true) (hw : Cond.fieldLink own idx "ThawPoints$State" "stopReason" "I" ∈ WT) (d : Dc cc pc (.getfield idx) 3 pc') (kk : W p l e R s m args below meth c H locs cells slots Q (F0 m pc' ls (.int (rd o 1 i 4) :: rest))) : W p l e R s m args below meth c H locs cells slots Q (F0 m pc ls (.ref (rA G 1 i) :: rest)) := by
  obtain ⟨d1, rfl⟩ := d
  exact va_get (ref := "ThawPoints$State") (T := TX2) (N := 8) C.1 C.2.1 C.2.2.2.2.2.1 in_X2 C.2.2.2.2.1 C.2.2.2.2.2.2.1 P.1 (adr 1 i) (WS_at hk) rfl 4 (by decide) (C.2.2.2.2.2.1 _ hw) (fun _ h9 => h9) rfl d1 kk
theorem pf_1_4 (C : Cx G own cc nL ret p s m args meth c) (P : Hp G o s H locs) {i idx : Nat} {x : Int32} (hk : okb 1 i = true) (hw : Cond.fieldLink own idx "ThawPoints$State" "stopReason" "I" ∈ WT) (d : Dc cc pc (.putfield idx) 3 pc') {β : Type} {K : OM → β} {z : β} (hf : bd (wr o 1 i 4 x) K = z) (kk : ∀ o1 H1 L1, Hp G o1 s H1 L1 → K o1 = z → W p l e R s m args below meth c H1 L1 cells slots Q (F0 m pc' ls rest)) : W p l e R s m args below meth c H locs cells slots Q (F0 m pc ls (.int x :: .ref (rA G 1 i) :: rest)) := by
  obtain ⟨d1, rfl⟩ := d
  refine va_put (ref := "ThawPoints$State") (T := TX2) (N := 8) (ty := .int) (v := .int x) C.1 C.2.1 C.2.2.2.2.2.1 in_X2 tyX2 tyX2_ok nmX2 C.2.2.2.2.1 C.2.2.2.2.2.2.1 P.1 (WS_D G o) P.2 (adr 1 i) (WS_at hk) rfl 4 (by decide) (C.2.2.2.2.2.1 _ hw) (fun _ h9 => h9) rfl (by decide +kernel) rfl rfl (Nat.le_of_ble_eq_true rfl) d1 (fun H1 L1 h1 _ h3 => kk (wr o 1 i 4 x) H1 L1 (P.put ?_ h1 h3) hf)
  refine WS_set hk ?_ (fun a b _ hab => by unfold wr; exact cel_wrA hab)
  unfold wr
  rw [cel_self]
  rfl
theorem gf_1_5 (C : Cx G own cc nL ret p s m args meth c) (P : Hp G o s H locs) {i idx : Nat} (hk : okb 1 i = true) (hw : Cond.fieldLink own idx "ThawPoints$State" "baths" "[I" ∈ WT) (d : Dc cc pc (.getfield idx) 3 pc') (kk : W p l e R s m args below meth c H locs cells slots Q (F0 m pc' ls (.ref (rA G 2 i) :: rest))) : W p l e R s m args below meth c H locs cells slots Q (F0 m pc ls (.ref (rA G 1 i) :: rest)) := by
  obtain ⟨d1, rfl⟩ := d
  exact va_get (ref := "ThawPoints$State") (T := TX2) (N := 8) C.1 C.2.1 C.2.2.2.2.2.1 in_X2 C.2.2.2.2.1 C.2.2.2.2.2.2.1 P.1 (adr 1 i) (WS_at hk) rfl 5 (by decide) (C.2.2.2.2.2.1 _ hw) (fun _ h9 => h9) rfl d1 kk
theorem gf_1_6 (C : Cx G own cc nL ret p s m args meth c) (P : Hp G o s H locs) {i idx : Nat} (hk : okb 1 i = true) (hw : Cond.fieldLink own idx "ThawPoints$State" "settings" "[I" ∈ WT) (d : Dc cc pc (.getfield idx) 3 pc') (kk : W p l e R s m args below meth c H locs cells slots Q (F0 m pc' ls (.ref (rA G 3 i) :: rest))) : W p l e R s m args below meth c H locs cells slots Q (F0 m pc ls (.ref (rA G 1 i) :: rest)) := by
  obtain ⟨d1, rfl⟩ := d
  exact va_get (ref := "ThawPoints$State") (T := TX2) (N := 8) C.1 C.2.1 C.2.2.2.2.2.1 in_X2 C.2.2.2.2.1 C.2.2.2.2.2.2.1 P.1 (adr 1 i) (WS_at hk) rfl 6 (by decide) (C.2.2.2.2.2.1 _ hw) (fun _ h9 => h9) rfl d1 kk
theorem gf_1_7 (C : Cx G own cc nL ret p s m args meth c) (P : Hp G o s H locs) {i idx : Nat} (hk : okb 1 i = true) (hw : Cond.fieldLink own idx "ThawPoints$State" "rows" "[LThawPoints$Thermometer;" ∈ WT) (d : Dc cc pc (.getfield idx) 3 pc') (kk : W p l e R s m args below meth c H locs cells slots Q (F0 m pc' ls (.ref (rA G 4 i) :: rest))) : W p l e R s m args below meth c H locs cells slots Q (F0 m pc ls (.ref (rA G 1 i) :: rest)) := by
  obtain ⟨d1, rfl⟩ := d
  exact va_get (ref := "ThawPoints$State") (T := TX2) (N := 8) C.1 C.2.1 C.2.2.2.2.2.1 in_X2 C.2.2.2.2.1 C.2.2.2.2.2.2.1 P.1 (adr 1 i) (WS_at hk) rfl 7 (by decide) (C.2.2.2.2.2.1 _ hw) (fun _ h9 => h9) rfl d1 kk
theorem gf_5_0 (C : Cx G own cc nL ret p s m args meth c) (P : Hp G o s H locs) {i idx : Nat} (hk : okb 5 i = true) (hw : Cond.fieldLink own idx "ThawPoints$Thermometer" "zero" "I" ∈ WT) (d : Dc cc pc (.getfield idx) 3 pc') (kk : W p l e R s m args below meth c H locs cells slots Q (F0 m pc' ls (.int (rd o 5 i 0) :: rest))) : W p l e R s m args below meth c H locs cells slots Q (F0 m pc ls (.ref (rA G 5 i) :: rest)) := by
  obtain ⟨d1, rfl⟩ := d
  exact va_get (ref := "ThawPoints$Thermometer") (T := TX3) (N := 8) C.1 C.2.1 C.2.2.2.2.2.1 in_X3 C.2.2.2.2.1 C.2.2.2.2.2.2.1 P.1 (adr 5 i) (WS_at hk) rfl 0 (by decide) (C.2.2.2.2.2.1 _ hw) (fun _ h9 => h9) rfl d1 kk
theorem pf_5_0 (C : Cx G own cc nL ret p s m args meth c) (P : Hp G o s H locs) {i idx : Nat} {x : Int32} (hk : okb 5 i = true) (hw : Cond.fieldLink own idx "ThawPoints$Thermometer" "zero" "I" ∈ WT) (d : Dc cc pc (.putfield idx) 3 pc') {β : Type} {K : OM → β} {z : β} (hf : bd (wr o 5 i 0 x) K = z) (kk : ∀ o1 H1 L1, Hp G o1 s H1 L1 → K o1 = z → W p l e R s m args below meth c H1 L1 cells slots Q (F0 m pc' ls rest)) : W p l e R s m args below meth c H locs cells slots Q (F0 m pc ls (.int x :: .ref (rA G 5 i) :: rest)) := by
  obtain ⟨d1, rfl⟩ := d
  refine va_put (ref := "ThawPoints$Thermometer") (T := TX3) (N := 8) (ty := .int) (v := .int x) C.1 C.2.1 C.2.2.2.2.2.1 in_X3 tyX3 tyX3_ok nmX3 C.2.2.2.2.1 C.2.2.2.2.2.2.1 P.1 (WS_D G o) P.2 (adr 5 i) (WS_at hk) rfl 0 (by decide) (C.2.2.2.2.2.1 _ hw) (fun _ h9 => h9) rfl (by decide +kernel) rfl rfl (Nat.le_of_ble_eq_true rfl) d1 (fun H1 L1 h1 _ h3 => kk (wr o 5 i 0 x) H1 L1 (P.put ?_ h1 h3) hf)
  refine WS_set hk ?_ (fun a b _ hab => by unfold wr; exact cel_wrA hab)
  unfold wr
  rw [cel_self]
  rfl
theorem gf_5_1 (C : Cx G own cc nL ret p s m args meth c) (P : Hp G o s H locs) {i idx : Nat} (hk : okb 5 i = true) (hw : Cond.fieldLink own idx "ThawPoints$Thermometer" "gain" "I" ∈ WT) (d : Dc cc pc (.getfield idx) 3 pc') (kk : W p l e R s m args below meth c H locs cells slots Q (F0 m pc' ls (.int (rd o 5 i 1) :: rest))) : W p l e R s m args below meth c H locs cells slots Q (F0 m pc ls (.ref (rA G 5 i) :: rest)) := by
  obtain ⟨d1, rfl⟩ := d
  exact va_get (ref := "ThawPoints$Thermometer") (T := TX3) (N := 8) C.1 C.2.1 C.2.2.2.2.2.1 in_X3 C.2.2.2.2.1 C.2.2.2.2.2.2.1 P.1 (adr 5 i) (WS_at hk) rfl 1 (by decide) (C.2.2.2.2.2.1 _ hw) (fun _ h9 => h9) rfl d1 kk
theorem pf_5_1 (C : Cx G own cc nL ret p s m args meth c) (P : Hp G o s H locs) {i idx : Nat} {x : Int32} (hk : okb 5 i = true) (hw : Cond.fieldLink own idx "ThawPoints$Thermometer" "gain" "I" ∈ WT) (d : Dc cc pc (.putfield idx) 3 pc') {β : Type} {K : OM → β} {z : β} (hf : bd (wr o 5 i 1 x) K = z) (kk : ∀ o1 H1 L1, Hp G o1 s H1 L1 → K o1 = z → W p l e R s m args below meth c H1 L1 cells slots Q (F0 m pc' ls rest)) : W p l e R s m args below meth c H locs cells slots Q (F0 m pc ls (.int x :: .ref (rA G 5 i) :: rest)) := by
  obtain ⟨d1, rfl⟩ := d
  refine va_put (ref := "ThawPoints$Thermometer") (T := TX3) (N := 8) (ty := .int) (v := .int x) C.1 C.2.1 C.2.2.2.2.2.1 in_X3 tyX3 tyX3_ok nmX3 C.2.2.2.2.1 C.2.2.2.2.2.2.1 P.1 (WS_D G o) P.2 (adr 5 i) (WS_at hk) rfl 1 (by decide) (C.2.2.2.2.2.1 _ hw) (fun _ h9 => h9) rfl (by decide +kernel) rfl rfl (Nat.le_of_ble_eq_true rfl) d1 (fun H1 L1 h1 _ h3 => kk (wr o 5 i 1 x) H1 L1 (P.put ?_ h1 h3) hf)
  refine WS_set hk ?_ (fun a b _ hab => by unfold wr; exact cel_wrA hab)
  unfold wr
  rw [cel_self]
  rfl
theorem gf_5_2 (C : Cx G own cc nL ret p s m args meth c) (P : Hp G o s H locs) {i idx : Nat} (hk : okb 5 i = true) (hw : Cond.fieldLink own idx "ThawPoints$Thermometer" "batch" "I" ∈ WT) (d : Dc cc pc (.getfield idx) 3 pc') (kk : W p l e R s m args below meth c H locs cells slots Q (F0 m pc' ls (.int (rd o 5 i 2) :: rest))) : W p l e R s m args below meth c H locs cells slots Q (F0 m pc ls (.ref (rA G 5 i) :: rest)) := by
  obtain ⟨d1, rfl⟩ := d
  exact va_get (ref := "ThawPoints$Thermometer") (T := TX3) (N := 8) C.1 C.2.1 C.2.2.2.2.2.1 in_X3 C.2.2.2.2.1 C.2.2.2.2.2.2.1 P.1 (adr 5 i) (WS_at hk) rfl 2 (by decide) (C.2.2.2.2.2.1 _ hw) (fun _ h9 => h9) rfl d1 kk
theorem pf_5_2 (C : Cx G own cc nL ret p s m args meth c) (P : Hp G o s H locs) {i idx : Nat} {x : Int32} (hk : okb 5 i = true) (hw : Cond.fieldLink own idx "ThawPoints$Thermometer" "batch" "I" ∈ WT) (d : Dc cc pc (.putfield idx) 3 pc') {β : Type} {K : OM → β} {z : β} (hf : bd (wr o 5 i 2 x) K = z) (kk : ∀ o1 H1 L1, Hp G o1 s H1 L1 → K o1 = z → W p l e R s m args below meth c H1 L1 cells slots Q (F0 m pc' ls rest)) : W p l e R s m args below meth c H locs cells slots Q (F0 m pc ls (.int x :: .ref (rA G 5 i) :: rest)) := by
  obtain ⟨d1, rfl⟩ := d
  refine va_put (ref := "ThawPoints$Thermometer") (T := TX3) (N := 8) (ty := .int) (v := .int x) C.1 C.2.1 C.2.2.2.2.2.1 in_X3 tyX3 tyX3_ok nmX3 C.2.2.2.2.1 C.2.2.2.2.2.2.1 P.1 (WS_D G o) P.2 (adr 5 i) (WS_at hk) rfl 2 (by decide) (C.2.2.2.2.2.1 _ hw) (fun _ h9 => h9) rfl (by decide +kernel) rfl rfl (Nat.le_of_ble_eq_true rfl) d1 (fun H1 L1 h1 _ h3 => kk (wr o 5 i 2 x) H1 L1 (P.put ?_ h1 h3) hf)
  refine WS_set hk ?_ (fun a b _ hab => by unfold wr; exact cel_wrA hab)
  unfold wr
  rw [cel_self]
  rfl
theorem gf_5_3 (C : Cx G own cc nL ret p s m args meth c) (P : Hp G o s H locs) {i idx : Nat} (hk : okb 5 i = true) (hw : Cond.fieldLink own idx "ThawPoints$Thermometer" "age" "I" ∈ WT) (d : Dc cc pc (.getfield idx) 3 pc') (kk : W p l e R s m args below meth c H locs cells slots Q (F0 m pc' ls (.int (rd o 5 i 3) :: rest))) : W p l e R s m args below meth c H locs cells slots Q (F0 m pc ls (.ref (rA G 5 i) :: rest)) := by
  obtain ⟨d1, rfl⟩ := d
  exact va_get (ref := "ThawPoints$Thermometer") (T := TX3) (N := 8) C.1 C.2.1 C.2.2.2.2.2.1 in_X3 C.2.2.2.2.1 C.2.2.2.2.2.2.1 P.1 (adr 5 i) (WS_at hk) rfl 3 (by decide) (C.2.2.2.2.2.1 _ hw) (fun _ h9 => h9) rfl d1 kk
theorem pf_5_3 (C : Cx G own cc nL ret p s m args meth c) (P : Hp G o s H locs) {i idx : Nat} {x : Int32} (hk : okb 5 i = true) (hw : Cond.fieldLink own idx "ThawPoints$Thermometer" "age" "I" ∈ WT) (d : Dc cc pc (.putfield idx) 3 pc') {β : Type} {K : OM → β} {z : β} (hf : bd (wr o 5 i 3 x) K = z) (kk : ∀ o1 H1 L1, Hp G o1 s H1 L1 → K o1 = z → W p l e R s m args below meth c H1 L1 cells slots Q (F0 m pc' ls rest)) : W p l e R s m args below meth c H locs cells slots Q (F0 m pc ls (.int x :: .ref (rA G 5 i) :: rest)) := by
  obtain ⟨d1, rfl⟩ := d
  refine va_put (ref := "ThawPoints$Thermometer") (T := TX3) (N := 8) (ty := .int) (v := .int x) C.1 C.2.1 C.2.2.2.2.2.1 in_X3 tyX3 tyX3_ok nmX3 C.2.2.2.2.1 C.2.2.2.2.2.2.1 P.1 (WS_D G o) P.2 (adr 5 i) (WS_at hk) rfl 3 (by decide) (C.2.2.2.2.2.1 _ hw) (fun _ h9 => h9) rfl (by decide +kernel) rfl rfl (Nat.le_of_ble_eq_true rfl) d1 (fun H1 L1 h1 _ h3 => kk (wr o 5 i 3 x) H1 L1 (P.put ?_ h1 h3) hf)
  refine WS_set hk ?_ (fun a b _ hab => by unfold wr; exact cel_wrA hab)
  unfold wr
  rw [cel_self]
  rfl
theorem gf_5_4 (C : Cx G own cc nL ret p s m args meth c) (P : Hp G o s H locs) {i idx : Nat} (hk : okb 5 i = true) (hw : Cond.fieldLink own idx "ThawPoints$Thermometer" "crept" "I" ∈ WT) (d : Dc cc pc (.getfield idx) 3 pc') (kk : W p l e R s m args below meth c H locs cells slots Q (F0 m pc' ls (.int (rd o 5 i 4) :: rest))) : W p l e R s m args below meth c H locs cells slots Q (F0 m pc ls (.ref (rA G 5 i) :: rest)) := by
  obtain ⟨d1, rfl⟩ := d
  exact va_get (ref := "ThawPoints$Thermometer") (T := TX3) (N := 8) C.1 C.2.1 C.2.2.2.2.2.1 in_X3 C.2.2.2.2.1 C.2.2.2.2.2.2.1 P.1 (adr 5 i) (WS_at hk) rfl 4 (by decide) (C.2.2.2.2.2.1 _ hw) (fun _ h9 => h9) rfl d1 kk
theorem pf_5_4 (C : Cx G own cc nL ret p s m args meth c) (P : Hp G o s H locs) {i idx : Nat} {x : Int32} (hk : okb 5 i = true) (hw : Cond.fieldLink own idx "ThawPoints$Thermometer" "crept" "I" ∈ WT) (d : Dc cc pc (.putfield idx) 3 pc') {β : Type} {K : OM → β} {z : β} (hf : bd (wr o 5 i 4 x) K = z) (kk : ∀ o1 H1 L1, Hp G o1 s H1 L1 → K o1 = z → W p l e R s m args below meth c H1 L1 cells slots Q (F0 m pc' ls rest)) : W p l e R s m args below meth c H locs cells slots Q (F0 m pc ls (.int x :: .ref (rA G 5 i) :: rest)) := by
  obtain ⟨d1, rfl⟩ := d
  refine va_put (ref := "ThawPoints$Thermometer") (T := TX3) (N := 8) (ty := .int) (v := .int x) C.1 C.2.1 C.2.2.2.2.2.1 in_X3 tyX3 tyX3_ok nmX3 C.2.2.2.2.1 C.2.2.2.2.2.2.1 P.1 (WS_D G o) P.2 (adr 5 i) (WS_at hk) rfl 4 (by decide) (C.2.2.2.2.2.1 _ hw) (fun _ h9 => h9) rfl (by decide +kernel) rfl rfl (Nat.le_of_ble_eq_true rfl) d1 (fun H1 L1 h1 _ h3 => kk (wr o 5 i 4 x) H1 L1 (P.put ?_ h1 h3) hf)
  refine WS_set hk ?_ (fun a b _ hab => by unfold wr; exact cel_wrA hab)
  unfold wr
  rw [cel_self]
  rfl
theorem gf_5_5 (C : Cx G own cc nL ret p s m args meth c) (P : Hp G o s H locs) {i idx : Nat} (hk : okb 5 i = true) (hw : Cond.fieldLink own idx "ThawPoints$Thermometer" "seal" "I" ∈ WT) (d : Dc cc pc (.getfield idx) 3 pc') (kk : W p l e R s m args below meth c H locs cells slots Q (F0 m pc' ls (.int (rd o 5 i 5) :: rest))) : W p l e R s m args below meth c H locs cells slots Q (F0 m pc ls (.ref (rA G 5 i) :: rest)) := by
  obtain ⟨d1, rfl⟩ := d
  exact va_get (ref := "ThawPoints$Thermometer") (T := TX3) (N := 8) C.1 C.2.1 C.2.2.2.2.2.1 in_X3 C.2.2.2.2.1 C.2.2.2.2.2.2.1 P.1 (adr 5 i) (WS_at hk) rfl 5 (by decide) (C.2.2.2.2.2.1 _ hw) (fun _ h9 => h9) rfl d1 kk
theorem pf_5_5 (C : Cx G own cc nL ret p s m args meth c) (P : Hp G o s H locs) {i idx : Nat} {x : Int32} (hk : okb 5 i = true) (hw : Cond.fieldLink own idx "ThawPoints$Thermometer" "seal" "I" ∈ WT) (d : Dc cc pc (.putfield idx) 3 pc') {β : Type} {K : OM → β} {z : β} (hf : bd (wr o 5 i 5 x) K = z) (kk : ∀ o1 H1 L1, Hp G o1 s H1 L1 → K o1 = z → W p l e R s m args below meth c H1 L1 cells slots Q (F0 m pc' ls rest)) : W p l e R s m args below meth c H locs cells slots Q (F0 m pc ls (.int x :: .ref (rA G 5 i) :: rest)) := by
  obtain ⟨d1, rfl⟩ := d
  refine va_put (ref := "ThawPoints$Thermometer") (T := TX3) (N := 8) (ty := .int) (v := .int x) C.1 C.2.1 C.2.2.2.2.2.1 in_X3 tyX3 tyX3_ok nmX3 C.2.2.2.2.1 C.2.2.2.2.2.2.1 P.1 (WS_D G o) P.2 (adr 5 i) (WS_at hk) rfl 5 (by decide) (C.2.2.2.2.2.1 _ hw) (fun _ h9 => h9) rfl (by decide +kernel) rfl rfl (Nat.le_of_ble_eq_true rfl) d1 (fun H1 L1 h1 _ h3 => kk (wr o 5 i 5 x) H1 L1 (P.put ?_ h1 h3) hf)
  refine WS_set hk ?_ (fun a b _ hab => by unfold wr; exact cel_wrA hab)
  unfold wr
  rw [cel_self]
  rfl
theorem gf_5_6 (C : Cx G own cc nL ret p s m args meth c) (P : Hp G o s H locs) {i idx : Nat} (hk : okb 5 i = true) (hw : Cond.fieldLink own idx "ThawPoints$Thermometer" "creptAtSeal" "I" ∈ WT) (d : Dc cc pc (.getfield idx) 3 pc') (kk : W p l e R s m args below meth c H locs cells slots Q (F0 m pc' ls (.int (rd o 5 i 6) :: rest))) : W p l e R s m args below meth c H locs cells slots Q (F0 m pc ls (.ref (rA G 5 i) :: rest)) := by
  obtain ⟨d1, rfl⟩ := d
  exact va_get (ref := "ThawPoints$Thermometer") (T := TX3) (N := 8) C.1 C.2.1 C.2.2.2.2.2.1 in_X3 C.2.2.2.2.1 C.2.2.2.2.2.2.1 P.1 (adr 5 i) (WS_at hk) rfl 6 (by decide) (C.2.2.2.2.2.1 _ hw) (fun _ h9 => h9) rfl d1 kk
theorem pf_5_6 (C : Cx G own cc nL ret p s m args meth c) (P : Hp G o s H locs) {i idx : Nat} {x : Int32} (hk : okb 5 i = true) (hw : Cond.fieldLink own idx "ThawPoints$Thermometer" "creptAtSeal" "I" ∈ WT) (d : Dc cc pc (.putfield idx) 3 pc') {β : Type} {K : OM → β} {z : β} (hf : bd (wr o 5 i 6 x) K = z) (kk : ∀ o1 H1 L1, Hp G o1 s H1 L1 → K o1 = z → W p l e R s m args below meth c H1 L1 cells slots Q (F0 m pc' ls rest)) : W p l e R s m args below meth c H locs cells slots Q (F0 m pc ls (.int x :: .ref (rA G 5 i) :: rest)) := by
  obtain ⟨d1, rfl⟩ := d
  refine va_put (ref := "ThawPoints$Thermometer") (T := TX3) (N := 8) (ty := .int) (v := .int x) C.1 C.2.1 C.2.2.2.2.2.1 in_X3 tyX3 tyX3_ok nmX3 C.2.2.2.2.1 C.2.2.2.2.2.2.1 P.1 (WS_D G o) P.2 (adr 5 i) (WS_at hk) rfl 6 (by decide) (C.2.2.2.2.2.1 _ hw) (fun _ h9 => h9) rfl (by decide +kernel) rfl rfl (Nat.le_of_ble_eq_true rfl) d1 (fun H1 L1 h1 _ h3 => kk (wr o 5 i 6 x) H1 L1 (P.put ?_ h1 h3) hf)
  refine WS_set hk ?_ (fun a b _ hab => by unfold wr; exact cel_wrA hab)
  unfold wr
  rw [cel_self]
  rfl
theorem gf_5_7 (C : Cx G own cc nL ret p s m args meth c) (P : Hp G o s H locs) {i idx : Nat} (hk : okb 5 i = true) (hw : Cond.fieldLink own idx "ThawPoints$Thermometer" "points" "LThawPoints$Points;" ∈ WT) (d : Dc cc pc (.getfield idx) 3 pc') (kk : W p l e R s m args below meth c H locs cells slots Q (F0 m pc' ls (.ref (rA G 6 i) :: rest))) : W p l e R s m args below meth c H locs cells slots Q (F0 m pc ls (.ref (rA G 5 i) :: rest)) := by
  obtain ⟨d1, rfl⟩ := d
  exact va_get (ref := "ThawPoints$Thermometer") (T := TX3) (N := 8) C.1 C.2.1 C.2.2.2.2.2.1 in_X3 C.2.2.2.2.1 C.2.2.2.2.2.2.1 P.1 (adr 5 i) (WS_at hk) rfl 7 (by decide) (C.2.2.2.2.2.1 _ hw) (fun _ h9 => h9) rfl d1 kk
theorem gf_6_0 (C : Cx G own cc nL ret p s m args meth c) (P : Hp G o s H locs) {i idx : Nat} (hk : okb 6 i = true) (hw : Cond.fieldLink own idx "ThawPoints$Points" "size" "I" ∈ WT) (d : Dc cc pc (.getfield idx) 3 pc') (kk : W p l e R s m args below meth c H locs cells slots Q (F0 m pc' ls (.int (rd o 6 i 0) :: rest))) : W p l e R s m args below meth c H locs cells slots Q (F0 m pc ls (.ref (rA G 6 i) :: rest)) := by
  obtain ⟨d1, rfl⟩ := d
  exact va_get (ref := "ThawPoints$Points") (T := TX1) (N := 8) C.1 C.2.1 C.2.2.2.2.2.1 in_X1 C.2.2.2.2.1 C.2.2.2.2.2.2.1 P.1 (adr 6 i) (WS_at hk) rfl 0 (by decide) (C.2.2.2.2.2.1 _ hw) (fun _ h9 => h9) rfl d1 kk
theorem pf_6_0 (C : Cx G own cc nL ret p s m args meth c) (P : Hp G o s H locs) {i idx : Nat} {x : Int32} (hk : okb 6 i = true) (hw : Cond.fieldLink own idx "ThawPoints$Points" "size" "I" ∈ WT) (d : Dc cc pc (.putfield idx) 3 pc') {β : Type} {K : OM → β} {z : β} (hf : bd (wr o 6 i 0 x) K = z) (kk : ∀ o1 H1 L1, Hp G o1 s H1 L1 → K o1 = z → W p l e R s m args below meth c H1 L1 cells slots Q (F0 m pc' ls rest)) : W p l e R s m args below meth c H locs cells slots Q (F0 m pc ls (.int x :: .ref (rA G 6 i) :: rest)) := by
  obtain ⟨d1, rfl⟩ := d
  refine va_put (ref := "ThawPoints$Points") (T := TX1) (N := 8) (ty := .int) (v := .int x) C.1 C.2.1 C.2.2.2.2.2.1 in_X1 tyX1 tyX1_ok nmX1 C.2.2.2.2.1 C.2.2.2.2.2.2.1 P.1 (WS_D G o) P.2 (adr 6 i) (WS_at hk) rfl 0 (by decide) (C.2.2.2.2.2.1 _ hw) (fun _ h9 => h9) rfl (by decide +kernel) rfl rfl (Nat.le_of_ble_eq_true rfl) d1 (fun H1 L1 h1 _ h3 => kk (wr o 6 i 0 x) H1 L1 (P.put ?_ h1 h3) hf)
  refine WS_set hk ?_ (fun a b _ hab => by unfold wr; exact cel_wrA hab)
  unfold wr
  rw [cel_self]
  rfl
theorem gf_6_1 (C : Cx G own cc nL ret p s m args meth c) (P : Hp G o s H locs) {i idx : Nat} (hk : okb 6 i = true) (hw : Cond.fieldLink own idx "ThawPoints$Points" "reading" "[I" ∈ WT) (d : Dc cc pc (.getfield idx) 3 pc') (kk : W p l e R s m args below meth c H locs cells slots Q (F0 m pc' ls (.ref (rA G 7 i) :: rest))) : W p l e R s m args below meth c H locs cells slots Q (F0 m pc ls (.ref (rA G 6 i) :: rest)) := by
  obtain ⟨d1, rfl⟩ := d
  exact va_get (ref := "ThawPoints$Points") (T := TX1) (N := 8) C.1 C.2.1 C.2.2.2.2.2.1 in_X1 C.2.2.2.2.1 C.2.2.2.2.2.2.1 P.1 (adr 6 i) (WS_at hk) rfl 1 (by decide) (C.2.2.2.2.2.1 _ hw) (fun _ h9 => h9) rfl d1 kk
theorem gf_6_2 (C : Cx G own cc nL ret p s m args meth c) (P : Hp G o s H locs) {i idx : Nat} (hk : okb 6 i = true) (hw : Cond.fieldLink own idx "ThawPoints$Points" "degree" "[I" ∈ WT) (d : Dc cc pc (.getfield idx) 3 pc') (kk : W p l e R s m args below meth c H locs cells slots Q (F0 m pc' ls (.ref (rA G 8 i) :: rest))) : W p l e R s m args below meth c H locs cells slots Q (F0 m pc ls (.ref (rA G 6 i) :: rest)) := by
  obtain ⟨d1, rfl⟩ := d
  exact va_get (ref := "ThawPoints$Points") (T := TX1) (N := 8) C.1 C.2.1 C.2.2.2.2.2.1 in_X1 C.2.2.2.2.1 C.2.2.2.2.2.2.1 P.1 (adr 6 i) (WS_at hk) rfl 2 (by decide) (C.2.2.2.2.2.1 _ hw) (fun _ h9 => h9) rfl d1 kk
theorem gf_6_3 (C : Cx G own cc nL ret p s m args meth c) (P : Hp G o s H locs) {i idx : Nat} (hk : okb 6 i = true) (hw : Cond.fieldLink own idx "ThawPoints$Points" "year" "[I" ∈ WT) (d : Dc cc pc (.getfield idx) 3 pc') (kk : W p l e R s m args below meth c H locs cells slots Q (F0 m pc' ls (.ref (rA G 9 i) :: rest))) : W p l e R s m args below meth c H locs cells slots Q (F0 m pc ls (.ref (rA G 6 i) :: rest)) := by
  obtain ⟨d1, rfl⟩ := d
  exact va_get (ref := "ThawPoints$Points") (T := TX1) (N := 8) C.1 C.2.1 C.2.2.2.2.2.1 in_X1 C.2.2.2.2.1 C.2.2.2.2.2.2.1 P.1 (adr 6 i) (WS_at hk) rfl 3 (by decide) (C.2.2.2.2.2.1 _ hw) (fun _ h9 => h9) rfl d1 kk
theorem gf_6_4 (C : Cx G own cc nL ret p s m args meth c) (P : Hp G o s H locs) {i idx : Nat} (hk : okb 6 i = true) (hw : Cond.fieldLink own idx "ThawPoints$Points" "left" "[I" ∈ WT) (d : Dc cc pc (.getfield idx) 3 pc') (kk : W p l e R s m args below meth c H locs cells slots Q (F0 m pc' ls (.ref (rA G 10 i) :: rest))) : W p l e R s m args below meth c H locs cells slots Q (F0 m pc ls (.ref (rA G 6 i) :: rest)) := by
  obtain ⟨d1, rfl⟩ := d
  exact va_get (ref := "ThawPoints$Points") (T := TX1) (N := 8) C.1 C.2.1 C.2.2.2.2.2.1 in_X1 C.2.2.2.2.1 C.2.2.2.2.2.2.1 P.1 (adr 6 i) (WS_at hk) rfl 4 (by decide) (C.2.2.2.2.2.1 _ hw) (fun _ h9 => h9) rfl d1 kk
theorem gf_6_5 (C : Cx G own cc nL ret p s m args meth c) (P : Hp G o s H locs) {i idx : Nat} (hk : okb 6 i = true) (hw : Cond.fieldLink own idx "ThawPoints$Points" "right" "[I" ∈ WT) (d : Dc cc pc (.getfield idx) 3 pc') (kk : W p l e R s m args below meth c H locs cells slots Q (F0 m pc' ls (.ref (rA G 11 i) :: rest))) : W p l e R s m args below meth c H locs cells slots Q (F0 m pc ls (.ref (rA G 6 i) :: rest)) := by
  obtain ⟨d1, rfl⟩ := d
  exact va_get (ref := "ThawPoints$Points") (T := TX1) (N := 8) C.1 C.2.1 C.2.2.2.2.2.1 in_X1 C.2.2.2.2.1 C.2.2.2.2.2.2.1 P.1 (adr 6 i) (WS_at hk) rfl 5 (by decide) (C.2.2.2.2.2.1 _ hw) (fun _ h9 => h9) rfl d1 kk
theorem gf_6_6 (C : Cx G own cc nL ret p s m args meth c) (P : Hp G o s H locs) {i idx : Nat} (hk : okb 6 i = true) (hw : Cond.fieldLink own idx "ThawPoints$Points" "depth" "[I" ∈ WT) (d : Dc cc pc (.getfield idx) 3 pc') (kk : W p l e R s m args below meth c H locs cells slots Q (F0 m pc' ls (.ref (rA G 12 i) :: rest))) : W p l e R s m args below meth c H locs cells slots Q (F0 m pc ls (.ref (rA G 6 i) :: rest)) := by
  obtain ⟨d1, rfl⟩ := d
  exact va_get (ref := "ThawPoints$Points") (T := TX1) (N := 8) C.1 C.2.1 C.2.2.2.2.2.1 in_X1 C.2.2.2.2.1 C.2.2.2.2.2.2.1 P.1 (adr 6 i) (WS_at hk) rfl 6 (by decide) (C.2.2.2.2.2.1 _ hw) (fun _ h9 => h9) rfl d1 kk
theorem gf_6_7 (C : Cx G own cc nL ret p s m args meth c) (P : Hp G o s H locs) {i idx : Nat} (hk : okb 6 i = true) (hw : Cond.fieldLink own idx "ThawPoints$Points" "order" "[I" ∈ WT) (d : Dc cc pc (.getfield idx) 3 pc') (kk : W p l e R s m args below meth c H locs cells slots Q (F0 m pc' ls (.ref (rA G 13 i) :: rest))) : W p l e R s m args below meth c H locs cells slots Q (F0 m pc ls (.ref (rA G 6 i) :: rest)) := by
  obtain ⟨d1, rfl⟩ := d
  exact va_get (ref := "ThawPoints$Points") (T := TX1) (N := 8) C.1 C.2.1 C.2.2.2.2.2.1 in_X1 C.2.2.2.2.1 C.2.2.2.2.2.2.1 P.1 (adr 6 i) (WS_at hk) rfl 7 (by decide) (C.2.2.2.2.2.1 _ hw) (fun _ h9 => h9) rfl d1 kk
theorem gf_14_0 (C : Cx G own cc nL ret p s m args meth c) (P : Hp G o s H locs) {i idx : Nat} (hk : okb 14 i = true) (hw : Cond.fieldLink own idx "ThawPoints$History" "size" "I" ∈ WT) (d : Dc cc pc (.getfield idx) 3 pc') (kk : W p l e R s m args below meth c H locs cells slots Q (F0 m pc' ls (.int (rd o 14 i 0) :: rest))) : W p l e R s m args below meth c H locs cells slots Q (F0 m pc ls (.ref (rA G 14 i) :: rest)) := by
  obtain ⟨d1, rfl⟩ := d
  exact va_get (ref := "ThawPoints$History") (T := TX0) (N := 3) C.1 C.2.1 C.2.2.2.2.2.1 in_X0 C.2.2.2.2.1 C.2.2.2.2.2.2.1 P.1 (adr 14 i) (WS_at hk) rfl 0 (by decide) (C.2.2.2.2.2.1 _ hw) (fun _ h9 => h9) rfl d1 kk
theorem pf_14_0 (C : Cx G own cc nL ret p s m args meth c) (P : Hp G o s H locs) {i idx : Nat} {x : Int32} (hk : okb 14 i = true) (hw : Cond.fieldLink own idx "ThawPoints$History" "size" "I" ∈ WT) (d : Dc cc pc (.putfield idx) 3 pc') {β : Type} {K : OM → β} {z : β} (hf : bd (wr o 14 i 0 x) K = z) (kk : ∀ o1 H1 L1, Hp G o1 s H1 L1 → K o1 = z → W p l e R s m args below meth c H1 L1 cells slots Q (F0 m pc' ls rest)) : W p l e R s m args below meth c H locs cells slots Q (F0 m pc ls (.int x :: .ref (rA G 14 i) :: rest)) := by
  obtain ⟨d1, rfl⟩ := d
  refine va_put (ref := "ThawPoints$History") (T := TX0) (N := 3) (ty := .int) (v := .int x) C.1 C.2.1 C.2.2.2.2.2.1 in_X0 tyX0 tyX0_ok nmX0 C.2.2.2.2.1 C.2.2.2.2.2.2.1 P.1 (WS_D G o) P.2 (adr 14 i) (WS_at hk) rfl 0 (by decide) (C.2.2.2.2.2.1 _ hw) (fun _ h9 => h9) rfl (by decide +kernel) rfl rfl (Nat.le_of_ble_eq_true rfl) d1 (fun H1 L1 h1 _ h3 => kk (wr o 14 i 0 x) H1 L1 (P.put ?_ h1 h3) hf)
  refine WS_set hk ?_ (fun a b _ hab => by unfold wr; exact cel_wrA hab)
  unfold wr
  rw [cel_self]
  rfl
theorem gf_14_1 (C : Cx G own cc nL ret p s m args meth c) (P : Hp G o s H locs) {i idx : Nat} (hk : okb 14 i = true) (hw : Cond.fieldLink own idx "ThawPoints$History" "oldest" "I" ∈ WT) (d : Dc cc pc (.getfield idx) 3 pc') (kk : W p l e R s m args below meth c H locs cells slots Q (F0 m pc' ls (.int (rd o 14 i 1) :: rest))) : W p l e R s m args below meth c H locs cells slots Q (F0 m pc ls (.ref (rA G 14 i) :: rest)) := by
  obtain ⟨d1, rfl⟩ := d
  exact va_get (ref := "ThawPoints$History") (T := TX0) (N := 3) C.1 C.2.1 C.2.2.2.2.2.1 in_X0 C.2.2.2.2.1 C.2.2.2.2.2.2.1 P.1 (adr 14 i) (WS_at hk) rfl 1 (by decide) (C.2.2.2.2.2.1 _ hw) (fun _ h9 => h9) rfl d1 kk
theorem pf_14_1 (C : Cx G own cc nL ret p s m args meth c) (P : Hp G o s H locs) {i idx : Nat} {x : Int32} (hk : okb 14 i = true) (hw : Cond.fieldLink own idx "ThawPoints$History" "oldest" "I" ∈ WT) (d : Dc cc pc (.putfield idx) 3 pc') {β : Type} {K : OM → β} {z : β} (hf : bd (wr o 14 i 1 x) K = z) (kk : ∀ o1 H1 L1, Hp G o1 s H1 L1 → K o1 = z → W p l e R s m args below meth c H1 L1 cells slots Q (F0 m pc' ls rest)) : W p l e R s m args below meth c H locs cells slots Q (F0 m pc ls (.int x :: .ref (rA G 14 i) :: rest)) := by
  obtain ⟨d1, rfl⟩ := d
  refine va_put (ref := "ThawPoints$History") (T := TX0) (N := 3) (ty := .int) (v := .int x) C.1 C.2.1 C.2.2.2.2.2.1 in_X0 tyX0 tyX0_ok nmX0 C.2.2.2.2.1 C.2.2.2.2.2.2.1 P.1 (WS_D G o) P.2 (adr 14 i) (WS_at hk) rfl 1 (by decide) (C.2.2.2.2.2.1 _ hw) (fun _ h9 => h9) rfl (by decide +kernel) rfl rfl (Nat.le_of_ble_eq_true rfl) d1 (fun H1 L1 h1 _ h3 => kk (wr o 14 i 1 x) H1 L1 (P.put ?_ h1 h3) hf)
  refine WS_set hk ?_ (fun a b _ hab => by unfold wr; exact cel_wrA hab)
  unfold wr
  rw [cel_self]
  rfl
theorem gf_14_2 (C : Cx G own cc nL ret p s m args meth c) (P : Hp G o s H locs) {i idx : Nat} (hk : okb 14 i = true) (hw : Cond.fieldLink own idx "ThawPoints$History" "ring" "[LThawPoints$State;" ∈ WT) (d : Dc cc pc (.getfield idx) 3 pc') (kk : W p l e R s m args below meth c H locs cells slots Q (F0 m pc' ls (.ref (rA G 15 0) :: rest))) : W p l e R s m args below meth c H locs cells slots Q (F0 m pc ls (.ref (rA G 14 i) :: rest)) := by
  obtain ⟨d1, rfl⟩ := d
  exact va_get (ref := "ThawPoints$History") (T := TX0) (N := 3) C.1 C.2.1 C.2.2.2.2.2.1 in_X0 C.2.2.2.2.1 C.2.2.2.2.2.2.1 P.1 (adr 14 i) (WS_at hk) rfl 2 (by decide) (C.2.2.2.2.2.1 _ hw) (fun _ h9 => h9) rfl d1 kk
theorem gf_16_0 (C : Cx G own cc nL ret p s m args meth c) (P : Hp G o s H locs) {i idx : Nat} (hk : okb 16 i = true) (hw : Cond.fieldLink own idx "ThawPoints$Works" "length" "I" ∈ WT) (d : Dc cc pc (.getfield idx) 3 pc') (kk : W p l e R s m args below meth c H locs cells slots Q (F0 m pc' ls (.int (rd o 16 i 0) :: rest))) : W p l e R s m args below meth c H locs cells slots Q (F0 m pc ls (.ref (rA G 16 i) :: rest)) := by
  obtain ⟨d1, rfl⟩ := d
  exact va_get (ref := "ThawPoints$Works") (T := TX4) (N := 6) C.1 C.2.1 C.2.2.2.2.2.1 in_X4 C.2.2.2.2.1 C.2.2.2.2.2.2.1 P.1 (adr 16 i) (WS_at hk) rfl 0 (by decide) (C.2.2.2.2.2.1 _ hw) (fun _ h9 => h9) rfl d1 kk
theorem pf_16_0 (C : Cx G own cc nL ret p s m args meth c) (P : Hp G o s H locs) {i idx : Nat} {x : Int32} (hk : okb 16 i = true) (hw : Cond.fieldLink own idx "ThawPoints$Works" "length" "I" ∈ WT) (d : Dc cc pc (.putfield idx) 3 pc') {β : Type} {K : OM → β} {z : β} (hf : bd (wr o 16 i 0 x) K = z) (kk : ∀ o1 H1 L1, Hp G o1 s H1 L1 → K o1 = z → W p l e R s m args below meth c H1 L1 cells slots Q (F0 m pc' ls rest)) : W p l e R s m args below meth c H locs cells slots Q (F0 m pc ls (.int x :: .ref (rA G 16 i) :: rest)) := by
  obtain ⟨d1, rfl⟩ := d
  refine va_put (ref := "ThawPoints$Works") (T := TX4) (N := 6) (ty := .int) (v := .int x) C.1 C.2.1 C.2.2.2.2.2.1 in_X4 tyX4 tyX4_ok nmX4 C.2.2.2.2.1 C.2.2.2.2.2.2.1 P.1 (WS_D G o) P.2 (adr 16 i) (WS_at hk) rfl 0 (by decide) (C.2.2.2.2.2.1 _ hw) (fun _ h9 => h9) rfl (by decide +kernel) rfl rfl (Nat.le_of_ble_eq_true rfl) d1 (fun H1 L1 h1 _ h3 => kk (wr o 16 i 0 x) H1 L1 (P.put ?_ h1 h3) hf)
  refine WS_set hk ?_ (fun a b _ hab => by unfold wr; exact cel_wrA hab)
  unfold wr
  rw [cel_self]
  rfl
theorem gf_16_1 (C : Cx G own cc nL ret p s m args meth c) (P : Hp G o s H locs) {i idx : Nat} (hk : okb 16 i = true) (hw : Cond.fieldLink own idx "ThawPoints$Works" "signs" "[C" ∈ WT) (d : Dc cc pc (.getfield idx) 3 pc') (kk : W p l e R s m args below meth c H locs cells slots Q (F0 m pc' ls (.ref (rA G 17 0) :: rest))) : W p l e R s m args below meth c H locs cells slots Q (F0 m pc ls (.ref (rA G 16 i) :: rest)) := by
  obtain ⟨d1, rfl⟩ := d
  exact va_get (ref := "ThawPoints$Works") (T := TX4) (N := 6) C.1 C.2.1 C.2.2.2.2.2.1 in_X4 C.2.2.2.2.1 C.2.2.2.2.2.2.1 P.1 (adr 16 i) (WS_at hk) rfl 1 (by decide) (C.2.2.2.2.2.1 _ hw) (fun _ h9 => h9) rfl d1 kk
theorem gf_16_2 (C : Cx G own cc nL ret p s m args meth c) (P : Hp G o s H locs) {i idx : Nat} (hk : okb 16 i = true) (hw : Cond.fieldLink own idx "ThawPoints$Works" "at" "I" ∈ WT) (d : Dc cc pc (.getfield idx) 3 pc') (kk : W p l e R s m args below meth c H locs cells slots Q (F0 m pc' ls (.int (rd o 16 i 2) :: rest))) : W p l e R s m args below meth c H locs cells slots Q (F0 m pc ls (.ref (rA G 16 i) :: rest)) := by
  obtain ⟨d1, rfl⟩ := d
  exact va_get (ref := "ThawPoints$Works") (T := TX4) (N := 6) C.1 C.2.1 C.2.2.2.2.2.1 in_X4 C.2.2.2.2.1 C.2.2.2.2.2.2.1 P.1 (adr 16 i) (WS_at hk) rfl 2 (by decide) (C.2.2.2.2.2.1 _ hw) (fun _ h9 => h9) rfl d1 kk
theorem pf_16_2 (C : Cx G own cc nL ret p s m args meth c) (P : Hp G o s H locs) {i idx : Nat} {x : Int32} (hk : okb 16 i = true) (hw : Cond.fieldLink own idx "ThawPoints$Works" "at" "I" ∈ WT) (d : Dc cc pc (.putfield idx) 3 pc') {β : Type} {K : OM → β} {z : β} (hf : bd (wr o 16 i 2 x) K = z) (kk : ∀ o1 H1 L1, Hp G o1 s H1 L1 → K o1 = z → W p l e R s m args below meth c H1 L1 cells slots Q (F0 m pc' ls rest)) : W p l e R s m args below meth c H locs cells slots Q (F0 m pc ls (.int x :: .ref (rA G 16 i) :: rest)) := by
  obtain ⟨d1, rfl⟩ := d
  refine va_put (ref := "ThawPoints$Works") (T := TX4) (N := 6) (ty := .int) (v := .int x) C.1 C.2.1 C.2.2.2.2.2.1 in_X4 tyX4 tyX4_ok nmX4 C.2.2.2.2.1 C.2.2.2.2.2.2.1 P.1 (WS_D G o) P.2 (adr 16 i) (WS_at hk) rfl 2 (by decide) (C.2.2.2.2.2.1 _ hw) (fun _ h9 => h9) rfl (by decide +kernel) rfl rfl (Nat.le_of_ble_eq_true rfl) d1 (fun H1 L1 h1 _ h3 => kk (wr o 16 i 2 x) H1 L1 (P.put ?_ h1 h3) hf)
  refine WS_set hk ?_ (fun a b _ hab => by unfold wr; exact cel_wrA hab)
  unfold wr
  rw [cel_self]
  rfl
theorem gf_16_3 (C : Cx G own cc nL ret p s m args meth c) (P : Hp G o s H locs) {i idx : Nat} (hk : okb 16 i = true) (hw : Cond.fieldLink own idx "ThawPoints$Works" "kind" "I" ∈ WT) (d : Dc cc pc (.getfield idx) 3 pc') (kk : W p l e R s m args below meth c H locs cells slots Q (F0 m pc' ls (.int (rd o 16 i 3) :: rest))) : W p l e R s m args below meth c H locs cells slots Q (F0 m pc ls (.ref (rA G 16 i) :: rest)) := by
  obtain ⟨d1, rfl⟩ := d
  exact va_get (ref := "ThawPoints$Works") (T := TX4) (N := 6) C.1 C.2.1 C.2.2.2.2.2.1 in_X4 C.2.2.2.2.1 C.2.2.2.2.2.2.1 P.1 (adr 16 i) (WS_at hk) rfl 3 (by decide) (C.2.2.2.2.2.1 _ hw) (fun _ h9 => h9) rfl d1 kk
theorem pf_16_3 (C : Cx G own cc nL ret p s m args meth c) (P : Hp G o s H locs) {i idx : Nat} {x : Int32} (hk : okb 16 i = true) (hw : Cond.fieldLink own idx "ThawPoints$Works" "kind" "I" ∈ WT) (d : Dc cc pc (.putfield idx) 3 pc') {β : Type} {K : OM → β} {z : β} (hf : bd (wr o 16 i 3 x) K = z) (kk : ∀ o1 H1 L1, Hp G o1 s H1 L1 → K o1 = z → W p l e R s m args below meth c H1 L1 cells slots Q (F0 m pc' ls rest)) : W p l e R s m args below meth c H locs cells slots Q (F0 m pc ls (.int x :: .ref (rA G 16 i) :: rest)) := by
  obtain ⟨d1, rfl⟩ := d
  refine va_put (ref := "ThawPoints$Works") (T := TX4) (N := 6) (ty := .int) (v := .int x) C.1 C.2.1 C.2.2.2.2.2.1 in_X4 tyX4 tyX4_ok nmX4 C.2.2.2.2.1 C.2.2.2.2.2.2.1 P.1 (WS_D G o) P.2 (adr 16 i) (WS_at hk) rfl 3 (by decide) (C.2.2.2.2.2.1 _ hw) (fun _ h9 => h9) rfl (by decide +kernel) rfl rfl (Nat.le_of_ble_eq_true rfl) d1 (fun H1 L1 h1 _ h3 => kk (wr o 16 i 3 x) H1 L1 (P.put ?_ h1 h3) hf)
  refine WS_set hk ?_ (fun a b _ hab => by unfold wr; exact cel_wrA hab)
  unfold wr
  rw [cel_self]
  rfl
theorem gf_16_4 (C : Cx G own cc nL ret p s m args meth c) (P : Hp G o s H locs) {i idx : Nat} (hk : okb 16 i = true) (hw : Cond.fieldLink own idx "ThawPoints$Works" "numbers" "[I" ∈ WT) (d : Dc cc pc (.getfield idx) 3 pc') (kk : W p l e R s m args below meth c H locs cells slots Q (F0 m pc' ls (.ref (rA G 18 0) :: rest))) : W p l e R s m args below meth c H locs cells slots Q (F0 m pc ls (.ref (rA G 16 i) :: rest)) := by
  obtain ⟨d1, rfl⟩ := d
  exact va_get (ref := "ThawPoints$Works") (T := TX4) (N := 6) C.1 C.2.1 C.2.2.2.2.2.1 in_X4 C.2.2.2.2.1 C.2.2.2.2.2.2.1 P.1 (adr 16 i) (WS_at hk) rfl 4 (by decide) (C.2.2.2.2.2.1 _ hw) (fun _ h9 => h9) rfl d1 kk
theorem gf_16_5 (C : Cx G own cc nL ret p s m args meth c) (P : Hp G o s H locs) {i idx : Nat} (hk : okb 16 i = true) (hw : Cond.fieldLink own idx "ThawPoints$Works" "numbersRead" "I" ∈ WT) (d : Dc cc pc (.getfield idx) 3 pc') (kk : W p l e R s m args below meth c H locs cells slots Q (F0 m pc' ls (.int (rd o 16 i 5) :: rest))) : W p l e R s m args below meth c H locs cells slots Q (F0 m pc ls (.ref (rA G 16 i) :: rest)) := by
  obtain ⟨d1, rfl⟩ := d
  exact va_get (ref := "ThawPoints$Works") (T := TX4) (N := 6) C.1 C.2.1 C.2.2.2.2.2.1 in_X4 C.2.2.2.2.1 C.2.2.2.2.2.2.1 P.1 (adr 16 i) (WS_at hk) rfl 5 (by decide) (C.2.2.2.2.2.1 _ hw) (fun _ h9 => h9) rfl d1 kk
theorem pf_16_5 (C : Cx G own cc nL ret p s m args meth c) (P : Hp G o s H locs) {i idx : Nat} {x : Int32} (hk : okb 16 i = true) (hw : Cond.fieldLink own idx "ThawPoints$Works" "numbersRead" "I" ∈ WT) (d : Dc cc pc (.putfield idx) 3 pc') {β : Type} {K : OM → β} {z : β} (hf : bd (wr o 16 i 5 x) K = z) (kk : ∀ o1 H1 L1, Hp G o1 s H1 L1 → K o1 = z → W p l e R s m args below meth c H1 L1 cells slots Q (F0 m pc' ls rest)) : W p l e R s m args below meth c H locs cells slots Q (F0 m pc ls (.int x :: .ref (rA G 16 i) :: rest)) := by
  obtain ⟨d1, rfl⟩ := d
  refine va_put (ref := "ThawPoints$Works") (T := TX4) (N := 6) (ty := .int) (v := .int x) C.1 C.2.1 C.2.2.2.2.2.1 in_X4 tyX4 tyX4_ok nmX4 C.2.2.2.2.1 C.2.2.2.2.2.2.1 P.1 (WS_D G o) P.2 (adr 16 i) (WS_at hk) rfl 5 (by decide) (C.2.2.2.2.2.1 _ hw) (fun _ h9 => h9) rfl (by decide +kernel) rfl rfl (Nat.le_of_ble_eq_true rfl) d1 (fun H1 L1 h1 _ h3 => kk (wr o 16 i 5 x) H1 L1 (P.put ?_ h1 h3) hf)
  refine WS_set hk ?_ (fun a b _ hab => by unfold wr; exact cel_wrA hab)
  unfold wr
  rw [cel_self]
  rfl
theorem gf_19_0 (C : Cx G own cc nL ret p s m args meth c) (P : Hp G o s H locs) {i idx : Nat} (hk : okb 19 i = true) (hw : Cond.fieldLink own idx "ThawPointsModel" "thrown" "I" ∈ WT) (d : Dc cc pc (.getfield idx) 3 pc') (kk : W p l e R s m args below meth c H locs cells slots Q (F0 m pc' ls (.int (rd o 19 i 0) :: rest))) : W p l e R s m args below meth c H locs cells slots Q (F0 m pc ls (.ref (rA G 19 i) :: rest)) := by
  obtain ⟨d1, rfl⟩ := d
  exact va_get (ref := "ThawPointsModel") (T := TX6) (N := 15) C.1 C.2.1 C.2.2.2.2.2.1 in_X6 C.2.2.2.2.1 C.2.2.2.2.2.2.1 P.1 (adr 19 i) (WS_at hk) rfl 0 (by decide) (C.2.2.2.2.2.1 _ hw) (fun _ h9 => h9) rfl d1 kk
theorem pf_19_0 (C : Cx G own cc nL ret p s m args meth c) (P : Hp G o s H locs) {i idx : Nat} {x : Int32} (hk : okb 19 i = true) (hw : Cond.fieldLink own idx "ThawPointsModel" "thrown" "I" ∈ WT) (d : Dc cc pc (.putfield idx) 3 pc') {β : Type} {K : OM → β} {z : β} (hf : bd (wr o 19 i 0 x) K = z) (kk : ∀ o1 H1 L1, Hp G o1 s H1 L1 → K o1 = z → W p l e R s m args below meth c H1 L1 cells slots Q (F0 m pc' ls rest)) : W p l e R s m args below meth c H locs cells slots Q (F0 m pc ls (.int x :: .ref (rA G 19 i) :: rest)) := by
  obtain ⟨d1, rfl⟩ := d
  refine va_put (ref := "ThawPointsModel") (T := TX6) (N := 15) (ty := .int) (v := .int x) C.1 C.2.1 C.2.2.2.2.2.1 in_X6 tyX6 tyX6_ok nmX6 C.2.2.2.2.1 C.2.2.2.2.2.2.1 P.1 (WS_D G o) P.2 (adr 19 i) (WS_at hk) rfl 0 (by decide) (C.2.2.2.2.2.1 _ hw) (fun _ h9 => h9) rfl (by decide +kernel) rfl rfl (Nat.le_of_ble_eq_true rfl) d1 (fun H1 L1 h1 _ h3 => kk (wr o 19 i 0 x) H1 L1 (P.put ?_ h1 h3) hf)
  refine WS_set hk ?_ (fun a b _ hab => by unfold wr; exact cel_wrA hab)
  unfold wr
  rw [cel_self]
  rfl
theorem gf_19_1 (C : Cx G own cc nL ret p s m args meth c) (P : Hp G o s H locs) {i idx : Nat} (hk : okb 19 i = true) (hw : Cond.fieldLink own idx "ThawPointsModel" "s" "[I" ∈ WT) (d : Dc cc pc (.getfield idx) 3 pc') (kk : W p l e R s m args below meth c H locs cells slots Q (F0 m pc' ls (.ref (rA G 20 0) :: rest))) : W p l e R s m args below meth c H locs cells slots Q (F0 m pc ls (.ref (rA G 19 i) :: rest)) := by
  obtain ⟨d1, rfl⟩ := d
  exact va_get (ref := "ThawPointsModel") (T := TX6) (N := 15) C.1 C.2.1 C.2.2.2.2.2.1 in_X6 C.2.2.2.2.1 C.2.2.2.2.2.2.1 P.1 (adr 19 i) (WS_at hk) rfl 1 (by decide) (C.2.2.2.2.2.1 _ hw) (fun _ h9 => h9) rfl d1 kk
theorem gf_19_2 (C : Cx G own cc nL ret p s m args meth c) (P : Hp G o s H locs) {i idx : Nat} (hk : okb 19 i = true) (hw : Cond.fieldLink own idx "ThawPointsModel" "saved" "[I" ∈ WT) (d : Dc cc pc (.getfield idx) 3 pc') (kk : W p l e R s m args below meth c H locs cells slots Q (F0 m pc' ls (.ref (rA G 21 0) :: rest))) : W p l e R s m args below meth c H locs cells slots Q (F0 m pc ls (.ref (rA G 19 i) :: rest)) := by
  obtain ⟨d1, rfl⟩ := d
  exact va_get (ref := "ThawPointsModel") (T := TX6) (N := 15) C.1 C.2.1 C.2.2.2.2.2.1 in_X6 C.2.2.2.2.1 C.2.2.2.2.2.2.1 P.1 (adr 19 i) (WS_at hk) rfl 2 (by decide) (C.2.2.2.2.2.1 _ hw) (fun _ h9 => h9) rfl d1 kk
theorem gf_19_3 (C : Cx G own cc nL ret p s m args meth c) (P : Hp G o s H locs) {i idx : Nat} (hk : okb 19 i = true) (hw : Cond.fieldLink own idx "ThawPointsModel" "savedMany" "I" ∈ WT) (d : Dc cc pc (.getfield idx) 3 pc') (kk : W p l e R s m args below meth c H locs cells slots Q (F0 m pc' ls (.int (rd o 19 i 3) :: rest))) : W p l e R s m args below meth c H locs cells slots Q (F0 m pc ls (.ref (rA G 19 i) :: rest)) := by
  obtain ⟨d1, rfl⟩ := d
  exact va_get (ref := "ThawPointsModel") (T := TX6) (N := 15) C.1 C.2.1 C.2.2.2.2.2.1 in_X6 C.2.2.2.2.1 C.2.2.2.2.2.2.1 P.1 (adr 19 i) (WS_at hk) rfl 3 (by decide) (C.2.2.2.2.2.1 _ hw) (fun _ h9 => h9) rfl d1 kk
theorem pf_19_3 (C : Cx G own cc nL ret p s m args meth c) (P : Hp G o s H locs) {i idx : Nat} {x : Int32} (hk : okb 19 i = true) (hw : Cond.fieldLink own idx "ThawPointsModel" "savedMany" "I" ∈ WT) (d : Dc cc pc (.putfield idx) 3 pc') {β : Type} {K : OM → β} {z : β} (hf : bd (wr o 19 i 3 x) K = z) (kk : ∀ o1 H1 L1, Hp G o1 s H1 L1 → K o1 = z → W p l e R s m args below meth c H1 L1 cells slots Q (F0 m pc' ls rest)) : W p l e R s m args below meth c H locs cells slots Q (F0 m pc ls (.int x :: .ref (rA G 19 i) :: rest)) := by
  obtain ⟨d1, rfl⟩ := d
  refine va_put (ref := "ThawPointsModel") (T := TX6) (N := 15) (ty := .int) (v := .int x) C.1 C.2.1 C.2.2.2.2.2.1 in_X6 tyX6 tyX6_ok nmX6 C.2.2.2.2.1 C.2.2.2.2.2.2.1 P.1 (WS_D G o) P.2 (adr 19 i) (WS_at hk) rfl 3 (by decide) (C.2.2.2.2.2.1 _ hw) (fun _ h9 => h9) rfl (by decide +kernel) rfl rfl (Nat.le_of_ble_eq_true rfl) d1 (fun H1 L1 h1 _ h3 => kk (wr o 19 i 3 x) H1 L1 (P.put ?_ h1 h3) hf)
  refine WS_set hk ?_ (fun a b _ hab => by unfold wr; exact cel_wrA hab)
  unfold wr
  rw [cel_self]
  rfl
theorem gf_19_4 (C : Cx G own cc nL ret p s m args meth c) (P : Hp G o s H locs) {i idx : Nat} (hk : okb 19 i = true) (hw : Cond.fieldLink own idx "ThawPointsModel" "snapshot" "[I" ∈ WT) (d : Dc cc pc (.getfield idx) 3 pc') (kk : W p l e R s m args below meth c H locs cells slots Q (F0 m pc' ls (.ref (rA G 22 0) :: rest))) : W p l e R s m args below meth c H locs cells slots Q (F0 m pc ls (.ref (rA G 19 i) :: rest)) := by
  obtain ⟨d1, rfl⟩ := d
  exact va_get (ref := "ThawPointsModel") (T := TX6) (N := 15) C.1 C.2.1 C.2.2.2.2.2.1 in_X6 C.2.2.2.2.1 C.2.2.2.2.2.2.1 P.1 (adr 19 i) (WS_at hk) rfl 4 (by decide) (C.2.2.2.2.2.1 _ hw) (fun _ h9 => h9) rfl d1 kk
theorem gf_19_5 (C : Cx G own cc nL ret p s m args meth c) (P : Hp G o s H locs) {i idx : Nat} (hk : okb 19 i = true) (hw : Cond.fieldLink own idx "ThawPointsModel" "isKept" "Z" ∈ WT) (d : Dc cc pc (.getfield idx) 3 pc') (kk : W p l e R s m args below meth c H locs cells slots Q (F0 m pc' ls (.int (rd o 19 i 5) :: rest))) : W p l e R s m args below meth c H locs cells slots Q (F0 m pc ls (.ref (rA G 19 i) :: rest)) := by
  obtain ⟨d1, rfl⟩ := d
  exact va_get (ref := "ThawPointsModel") (T := TX6) (N := 15) C.1 C.2.1 C.2.2.2.2.2.1 in_X6 C.2.2.2.2.1 C.2.2.2.2.2.2.1 P.1 (adr 19 i) (WS_at hk) rfl 5 (by decide) (C.2.2.2.2.2.1 _ hw) (fun _ h9 => h9) rfl d1 kk
theorem pf_19_5 (C : Cx G own cc nL ret p s m args meth c) (P : Hp G o s H locs) {i idx : Nat} {x : Int32} (hk : okb 19 i = true) (hw : Cond.fieldLink own idx "ThawPointsModel" "isKept" "Z" ∈ WT) (d : Dc cc pc (.putfield idx) 3 pc') {α : Type} {K : OM → Option α} {z : α} (hf : grd (isZ x) (bd (wr o 19 i 5 x) K) = some z) (kk : ∀ o1 H1 L1, Hp G o1 s H1 L1 → K o1 = some z → W p l e R s m args below meth c H1 L1 cells slots Q (F0 m pc' ls rest)) : W p l e R s m args below meth c H locs cells slots Q (F0 m pc ls (.int x :: .ref (rA G 19 i) :: rest)) := by
  obtain ⟨d1, rfl⟩ := d
  obtain ⟨g1, g2⟩ := grd_s hf
  have hb : narrow .boolean (.int x) = .int x ∧ fits .boolean (.int x) = true := by
    unfold isZ at g1
    rcases Bool.or_eq_true _ _ ▸ g1 with h | h <;> (rw [of_decide_eq_true h]; exact ⟨rfl, rfl⟩)
  refine va_put (ref := "ThawPointsModel") (T := TX6) (N := 15) (ty := .boolean) (v := .int x) C.1 C.2.1 C.2.2.2.2.2.1 in_X6 tyX6 tyX6_ok nmX6 C.2.2.2.2.1 C.2.2.2.2.2.2.1 P.1 (WS_D G o) P.2 (adr 19 i) (WS_at hk) rfl 5 (by decide) (C.2.2.2.2.2.1 _ hw) (fun _ h9 => h9) rfl (by decide +kernel) hb.1 hb.2 (Nat.le_of_ble_eq_true rfl) d1 (fun H1 L1 h1 _ h3 => kk (wr o 19 i 5 x) H1 L1 (P.put ?_ h1 h3) g2)
  refine WS_set hk ?_ (fun a b _ hab => by unfold wr; exact cel_wrA hab)
  unfold wr
  rw [cel_self]
  rfl
theorem gf_19_6 (C : Cx G own cc nL ret p s m args meth c) (P : Hp G o s H locs) {i idx : Nat} (hk : okb 19 i = true) (hw : Cond.fieldLink own idx "ThawPointsModel" "text" "[I" ∈ WT) (d : Dc cc pc (.getfield idx) 3 pc') (kk : W p l e R s m args below meth c H locs cells slots Q (F0 m pc' ls (.ref (rA G 23 0) :: rest))) : W p l e R s m args below meth c H locs cells slots Q (F0 m pc ls (.ref (rA G 19 i) :: rest)) := by
  obtain ⟨d1, rfl⟩ := d
  exact va_get (ref := "ThawPointsModel") (T := TX6) (N := 15) C.1 C.2.1 C.2.2.2.2.2.1 in_X6 C.2.2.2.2.1 C.2.2.2.2.2.2.1 P.1 (adr 19 i) (WS_at hk) rfl 6 (by decide) (C.2.2.2.2.2.1 _ hw) (fun _ h9 => h9) rfl d1 kk
theorem gf_19_7 (C : Cx G own cc nL ret p s m args meth c) (P : Hp G o s H locs) {i idx : Nat} (hk : okb 19 i = true) (hw : Cond.fieldLink own idx "ThawPointsModel" "length" "I" ∈ WT) (d : Dc cc pc (.getfield idx) 3 pc') (kk : W p l e R s m args below meth c H locs cells slots Q (F0 m pc' ls (.int (rd o 19 i 7) :: rest))) : W p l e R s m args below meth c H locs cells slots Q (F0 m pc ls (.ref (rA G 19 i) :: rest)) := by
  obtain ⟨d1, rfl⟩ := d
  exact va_get (ref := "ThawPointsModel") (T := TX6) (N := 15) C.1 C.2.1 C.2.2.2.2.2.1 in_X6 C.2.2.2.2.1 C.2.2.2.2.2.2.1 P.1 (adr 19 i) (WS_at hk) rfl 7 (by decide) (C.2.2.2.2.2.1 _ hw) (fun _ h9 => h9) rfl d1 kk
theorem pf_19_7 (C : Cx G own cc nL ret p s m args meth c) (P : Hp G o s H locs) {i idx : Nat} {x : Int32} (hk : okb 19 i = true) (hw : Cond.fieldLink own idx "ThawPointsModel" "length" "I" ∈ WT) (d : Dc cc pc (.putfield idx) 3 pc') {β : Type} {K : OM → β} {z : β} (hf : bd (wr o 19 i 7 x) K = z) (kk : ∀ o1 H1 L1, Hp G o1 s H1 L1 → K o1 = z → W p l e R s m args below meth c H1 L1 cells slots Q (F0 m pc' ls rest)) : W p l e R s m args below meth c H locs cells slots Q (F0 m pc ls (.int x :: .ref (rA G 19 i) :: rest)) := by
  obtain ⟨d1, rfl⟩ := d
  refine va_put (ref := "ThawPointsModel") (T := TX6) (N := 15) (ty := .int) (v := .int x) C.1 C.2.1 C.2.2.2.2.2.1 in_X6 tyX6 tyX6_ok nmX6 C.2.2.2.2.1 C.2.2.2.2.2.2.1 P.1 (WS_D G o) P.2 (adr 19 i) (WS_at hk) rfl 7 (by decide) (C.2.2.2.2.2.1 _ hw) (fun _ h9 => h9) rfl (by decide +kernel) rfl rfl (Nat.le_of_ble_eq_true rfl) d1 (fun H1 L1 h1 _ h3 => kk (wr o 19 i 7 x) H1 L1 (P.put ?_ h1 h3) hf)
  refine WS_set hk ?_ (fun a b _ hab => by unfold wr; exact cel_wrA hab)
  unfold wr
  rw [cel_self]
  rfl
theorem gf_19_8 (C : Cx G own cc nL ret p s m args meth c) (P : Hp G o s H locs) {i idx : Nat} (hk : okb 19 i = true) (hw : Cond.fieldLink own idx "ThawPointsModel" "spot" "I" ∈ WT) (d : Dc cc pc (.getfield idx) 3 pc') (kk : W p l e R s m args below meth c H locs cells slots Q (F0 m pc' ls (.int (rd o 19 i 8) :: rest))) : W p l e R s m args below meth c H locs cells slots Q (F0 m pc ls (.ref (rA G 19 i) :: rest)) := by
  obtain ⟨d1, rfl⟩ := d
  exact va_get (ref := "ThawPointsModel") (T := TX6) (N := 15) C.1 C.2.1 C.2.2.2.2.2.1 in_X6 C.2.2.2.2.1 C.2.2.2.2.2.2.1 P.1 (adr 19 i) (WS_at hk) rfl 8 (by decide) (C.2.2.2.2.2.1 _ hw) (fun _ h9 => h9) rfl d1 kk
theorem pf_19_8 (C : Cx G own cc nL ret p s m args meth c) (P : Hp G o s H locs) {i idx : Nat} {x : Int32} (hk : okb 19 i = true) (hw : Cond.fieldLink own idx "ThawPointsModel" "spot" "I" ∈ WT) (d : Dc cc pc (.putfield idx) 3 pc') {β : Type} {K : OM → β} {z : β} (hf : bd (wr o 19 i 8 x) K = z) (kk : ∀ o1 H1 L1, Hp G o1 s H1 L1 → K o1 = z → W p l e R s m args below meth c H1 L1 cells slots Q (F0 m pc' ls rest)) : W p l e R s m args below meth c H locs cells slots Q (F0 m pc ls (.int x :: .ref (rA G 19 i) :: rest)) := by
  obtain ⟨d1, rfl⟩ := d
  refine va_put (ref := "ThawPointsModel") (T := TX6) (N := 15) (ty := .int) (v := .int x) C.1 C.2.1 C.2.2.2.2.2.1 in_X6 tyX6 tyX6_ok nmX6 C.2.2.2.2.1 C.2.2.2.2.2.2.1 P.1 (WS_D G o) P.2 (adr 19 i) (WS_at hk) rfl 8 (by decide) (C.2.2.2.2.2.1 _ hw) (fun _ h9 => h9) rfl (by decide +kernel) rfl rfl (Nat.le_of_ble_eq_true rfl) d1 (fun H1 L1 h1 _ h3 => kk (wr o 19 i 8 x) H1 L1 (P.put ?_ h1 h3) hf)
  refine WS_set hk ?_ (fun a b _ hab => by unfold wr; exact cel_wrA hab)
  unfold wr
  rw [cel_self]
  rfl
theorem gf_19_9 (C : Cx G own cc nL ret p s m args meth c) (P : Hp G o s H locs) {i idx : Nat} (hk : okb 19 i = true) (hw : Cond.fieldLink own idx "ThawPointsModel" "isWrong" "Z" ∈ WT) (d : Dc cc pc (.getfield idx) 3 pc') (kk : W p l e R s m args below meth c H locs cells slots Q (F0 m pc' ls (.int (rd o 19 i 9) :: rest))) : W p l e R s m args below meth c H locs cells slots Q (F0 m pc ls (.ref (rA G 19 i) :: rest)) := by
  obtain ⟨d1, rfl⟩ := d
  exact va_get (ref := "ThawPointsModel") (T := TX6) (N := 15) C.1 C.2.1 C.2.2.2.2.2.1 in_X6 C.2.2.2.2.1 C.2.2.2.2.2.2.1 P.1 (adr 19 i) (WS_at hk) rfl 9 (by decide) (C.2.2.2.2.2.1 _ hw) (fun _ h9 => h9) rfl d1 kk
theorem pf_19_9 (C : Cx G own cc nL ret p s m args meth c) (P : Hp G o s H locs) {i idx : Nat} {x : Int32} (hk : okb 19 i = true) (hw : Cond.fieldLink own idx "ThawPointsModel" "isWrong" "Z" ∈ WT) (d : Dc cc pc (.putfield idx) 3 pc') {α : Type} {K : OM → Option α} {z : α} (hf : grd (isZ x) (bd (wr o 19 i 9 x) K) = some z) (kk : ∀ o1 H1 L1, Hp G o1 s H1 L1 → K o1 = some z → W p l e R s m args below meth c H1 L1 cells slots Q (F0 m pc' ls rest)) : W p l e R s m args below meth c H locs cells slots Q (F0 m pc ls (.int x :: .ref (rA G 19 i) :: rest)) := by
  obtain ⟨d1, rfl⟩ := d
  obtain ⟨g1, g2⟩ := grd_s hf
  have hb : narrow .boolean (.int x) = .int x ∧ fits .boolean (.int x) = true := by
    unfold isZ at g1
    rcases Bool.or_eq_true _ _ ▸ g1 with h | h <;> (rw [of_decide_eq_true h]; exact ⟨rfl, rfl⟩)
  refine va_put (ref := "ThawPointsModel") (T := TX6) (N := 15) (ty := .boolean) (v := .int x) C.1 C.2.1 C.2.2.2.2.2.1 in_X6 tyX6 tyX6_ok nmX6 C.2.2.2.2.1 C.2.2.2.2.2.2.1 P.1 (WS_D G o) P.2 (adr 19 i) (WS_at hk) rfl 9 (by decide) (C.2.2.2.2.2.1 _ hw) (fun _ h9 => h9) rfl (by decide +kernel) hb.1 hb.2 (Nat.le_of_ble_eq_true rfl) d1 (fun H1 L1 h1 _ h3 => kk (wr o 19 i 9 x) H1 L1 (P.put ?_ h1 h3) g2)
  refine WS_set hk ?_ (fun a b _ hab => by unfold wr; exact cel_wrA hab)
  unfold wr
  rw [cel_self]
  rfl
theorem gf_19_10 (C : Cx G own cc nL ret p s m args meth c) (P : Hp G o s H locs) {i idx : Nat} (hk : okb 19 i = true) (hw : Cond.fieldLink own idx "ThawPointsModel" "letter" "I" ∈ WT) (d : Dc cc pc (.getfield idx) 3 pc') (kk : W p l e R s m args below meth c H locs cells slots Q (F0 m pc' ls (.int (rd o 19 i 10) :: rest))) : W p l e R s m args below meth c H locs cells slots Q (F0 m pc ls (.ref (rA G 19 i) :: rest)) := by
  obtain ⟨d1, rfl⟩ := d
  exact va_get (ref := "ThawPointsModel") (T := TX6) (N := 15) C.1 C.2.1 C.2.2.2.2.2.1 in_X6 C.2.2.2.2.1 C.2.2.2.2.2.2.1 P.1 (adr 19 i) (WS_at hk) rfl 10 (by decide) (C.2.2.2.2.2.1 _ hw) (fun _ h9 => h9) rfl d1 kk
theorem pf_19_10 (C : Cx G own cc nL ret p s m args meth c) (P : Hp G o s H locs) {i idx : Nat} {x : Int32} (hk : okb 19 i = true) (hw : Cond.fieldLink own idx "ThawPointsModel" "letter" "I" ∈ WT) (d : Dc cc pc (.putfield idx) 3 pc') {β : Type} {K : OM → β} {z : β} (hf : bd (wr o 19 i 10 x) K = z) (kk : ∀ o1 H1 L1, Hp G o1 s H1 L1 → K o1 = z → W p l e R s m args below meth c H1 L1 cells slots Q (F0 m pc' ls rest)) : W p l e R s m args below meth c H locs cells slots Q (F0 m pc ls (.int x :: .ref (rA G 19 i) :: rest)) := by
  obtain ⟨d1, rfl⟩ := d
  refine va_put (ref := "ThawPointsModel") (T := TX6) (N := 15) (ty := .int) (v := .int x) C.1 C.2.1 C.2.2.2.2.2.1 in_X6 tyX6 tyX6_ok nmX6 C.2.2.2.2.1 C.2.2.2.2.2.2.1 P.1 (WS_D G o) P.2 (adr 19 i) (WS_at hk) rfl 10 (by decide) (C.2.2.2.2.2.1 _ hw) (fun _ h9 => h9) rfl (by decide +kernel) rfl rfl (Nat.le_of_ble_eq_true rfl) d1 (fun H1 L1 h1 _ h3 => kk (wr o 19 i 10 x) H1 L1 (P.put ?_ h1 h3) hf)
  refine WS_set hk ?_ (fun a b _ hab => by unfold wr; exact cel_wrA hab)
  unfold wr
  rw [cel_self]
  rfl
theorem gf_19_11 (C : Cx G own cc nL ret p s m args meth c) (P : Hp G o s H locs) {i idx : Nat} (hk : okb 19 i = true) (hw : Cond.fieldLink own idx "ThawPointsModel" "first" "I" ∈ WT) (d : Dc cc pc (.getfield idx) 3 pc') (kk : W p l e R s m args below meth c H locs cells slots Q (F0 m pc' ls (.int (rd o 19 i 11) :: rest))) : W p l e R s m args below meth c H locs cells slots Q (F0 m pc ls (.ref (rA G 19 i) :: rest)) := by
  obtain ⟨d1, rfl⟩ := d
  exact va_get (ref := "ThawPointsModel") (T := TX6) (N := 15) C.1 C.2.1 C.2.2.2.2.2.1 in_X6 C.2.2.2.2.1 C.2.2.2.2.2.2.1 P.1 (adr 19 i) (WS_at hk) rfl 11 (by decide) (C.2.2.2.2.2.1 _ hw) (fun _ h9 => h9) rfl d1 kk
theorem pf_19_11 (C : Cx G own cc nL ret p s m args meth c) (P : Hp G o s H locs) {i idx : Nat} {x : Int32} (hk : okb 19 i = true) (hw : Cond.fieldLink own idx "ThawPointsModel" "first" "I" ∈ WT) (d : Dc cc pc (.putfield idx) 3 pc') {β : Type} {K : OM → β} {z : β} (hf : bd (wr o 19 i 11 x) K = z) (kk : ∀ o1 H1 L1, Hp G o1 s H1 L1 → K o1 = z → W p l e R s m args below meth c H1 L1 cells slots Q (F0 m pc' ls rest)) : W p l e R s m args below meth c H locs cells slots Q (F0 m pc ls (.int x :: .ref (rA G 19 i) :: rest)) := by
  obtain ⟨d1, rfl⟩ := d
  refine va_put (ref := "ThawPointsModel") (T := TX6) (N := 15) (ty := .int) (v := .int x) C.1 C.2.1 C.2.2.2.2.2.1 in_X6 tyX6 tyX6_ok nmX6 C.2.2.2.2.1 C.2.2.2.2.2.2.1 P.1 (WS_D G o) P.2 (adr 19 i) (WS_at hk) rfl 11 (by decide) (C.2.2.2.2.2.1 _ hw) (fun _ h9 => h9) rfl (by decide +kernel) rfl rfl (Nat.le_of_ble_eq_true rfl) d1 (fun H1 L1 h1 _ h3 => kk (wr o 19 i 11 x) H1 L1 (P.put ?_ h1 h3) hf)
  refine WS_set hk ?_ (fun a b _ hab => by unfold wr; exact cel_wrA hab)
  unfold wr
  rw [cel_self]
  rfl
theorem gf_19_12 (C : Cx G own cc nL ret p s m args meth c) (P : Hp G o s H locs) {i idx : Nat} (hk : okb 19 i = true) (hw : Cond.fieldLink own idx "ThawPointsModel" "second" "I" ∈ WT) (d : Dc cc pc (.getfield idx) 3 pc') (kk : W p l e R s m args below meth c H locs cells slots Q (F0 m pc' ls (.int (rd o 19 i 12) :: rest))) : W p l e R s m args below meth c H locs cells slots Q (F0 m pc ls (.ref (rA G 19 i) :: rest)) := by
  obtain ⟨d1, rfl⟩ := d
  exact va_get (ref := "ThawPointsModel") (T := TX6) (N := 15) C.1 C.2.1 C.2.2.2.2.2.1 in_X6 C.2.2.2.2.1 C.2.2.2.2.2.2.1 P.1 (adr 19 i) (WS_at hk) rfl 12 (by decide) (C.2.2.2.2.2.1 _ hw) (fun _ h9 => h9) rfl d1 kk
theorem pf_19_12 (C : Cx G own cc nL ret p s m args meth c) (P : Hp G o s H locs) {i idx : Nat} {x : Int32} (hk : okb 19 i = true) (hw : Cond.fieldLink own idx "ThawPointsModel" "second" "I" ∈ WT) (d : Dc cc pc (.putfield idx) 3 pc') {β : Type} {K : OM → β} {z : β} (hf : bd (wr o 19 i 12 x) K = z) (kk : ∀ o1 H1 L1, Hp G o1 s H1 L1 → K o1 = z → W p l e R s m args below meth c H1 L1 cells slots Q (F0 m pc' ls rest)) : W p l e R s m args below meth c H locs cells slots Q (F0 m pc ls (.int x :: .ref (rA G 19 i) :: rest)) := by
  obtain ⟨d1, rfl⟩ := d
  refine va_put (ref := "ThawPointsModel") (T := TX6) (N := 15) (ty := .int) (v := .int x) C.1 C.2.1 C.2.2.2.2.2.1 in_X6 tyX6 tyX6_ok nmX6 C.2.2.2.2.1 C.2.2.2.2.2.2.1 P.1 (WS_D G o) P.2 (adr 19 i) (WS_at hk) rfl 12 (by decide) (C.2.2.2.2.2.1 _ hw) (fun _ h9 => h9) rfl (by decide +kernel) rfl rfl (Nat.le_of_ble_eq_true rfl) d1 (fun H1 L1 h1 _ h3 => kk (wr o 19 i 12 x) H1 L1 (P.put ?_ h1 h3) hf)
  refine WS_set hk ?_ (fun a b _ hab => by unfold wr; exact cel_wrA hab)
  unfold wr
  rw [cel_self]
  rfl
theorem gf_19_13 (C : Cx G own cc nL ret p s m args meth c) (P : Hp G o s H locs) {i idx : Nat} (hk : okb 19 i = true) (hw : Cond.fieldLink own idx "ThawPointsModel" "third" "I" ∈ WT) (d : Dc cc pc (.getfield idx) 3 pc') (kk : W p l e R s m args below meth c H locs cells slots Q (F0 m pc' ls (.int (rd o 19 i 13) :: rest))) : W p l e R s m args below meth c H locs cells slots Q (F0 m pc ls (.ref (rA G 19 i) :: rest)) := by
  obtain ⟨d1, rfl⟩ := d
  exact va_get (ref := "ThawPointsModel") (T := TX6) (N := 15) C.1 C.2.1 C.2.2.2.2.2.1 in_X6 C.2.2.2.2.1 C.2.2.2.2.2.2.1 P.1 (adr 19 i) (WS_at hk) rfl 13 (by decide) (C.2.2.2.2.2.1 _ hw) (fun _ h9 => h9) rfl d1 kk
theorem pf_19_13 (C : Cx G own cc nL ret p s m args meth c) (P : Hp G o s H locs) {i idx : Nat} {x : Int32} (hk : okb 19 i = true) (hw : Cond.fieldLink own idx "ThawPointsModel" "third" "I" ∈ WT) (d : Dc cc pc (.putfield idx) 3 pc') {β : Type} {K : OM → β} {z : β} (hf : bd (wr o 19 i 13 x) K = z) (kk : ∀ o1 H1 L1, Hp G o1 s H1 L1 → K o1 = z → W p l e R s m args below meth c H1 L1 cells slots Q (F0 m pc' ls rest)) : W p l e R s m args below meth c H locs cells slots Q (F0 m pc ls (.int x :: .ref (rA G 19 i) :: rest)) := by
  obtain ⟨d1, rfl⟩ := d
  refine va_put (ref := "ThawPointsModel") (T := TX6) (N := 15) (ty := .int) (v := .int x) C.1 C.2.1 C.2.2.2.2.2.1 in_X6 tyX6 tyX6_ok nmX6 C.2.2.2.2.1 C.2.2.2.2.2.2.1 P.1 (WS_D G o) P.2 (adr 19 i) (WS_at hk) rfl 13 (by decide) (C.2.2.2.2.2.1 _ hw) (fun _ h9 => h9) rfl (by decide +kernel) rfl rfl (Nat.le_of_ble_eq_true rfl) d1 (fun H1 L1 h1 _ h3 => kk (wr o 19 i 13 x) H1 L1 (P.put ?_ h1 h3) hf)
  refine WS_set hk ?_ (fun a b _ hab => by unfold wr; exact cel_wrA hab)
  unfold wr
  rw [cel_self]
  rfl
theorem gf_19_14 (C : Cx G own cc nL ret p s m args meth c) (P : Hp G o s H locs) {i idx : Nat} (hk : okb 19 i = true) (hw : Cond.fieldLink own idx "ThawPointsModel" "digested" "J" ∈ WT) (d : Dc cc pc (.getfield idx) 3 pc') (kk : W p l e R s m args below meth c H locs cells slots Q (F0 m pc' ls (.long (rdL o 19) :: rest))) : W p l e R s m args below meth c H locs cells slots Q (F0 m pc ls (.ref (rA G 19 i) :: rest)) := by
  obtain ⟨d1, rfl⟩ := d
  exact va_get (ref := "ThawPointsModel") (T := TX6) (N := 15) C.1 C.2.1 C.2.2.2.2.2.1 in_X6 C.2.2.2.2.1 C.2.2.2.2.2.2.1 P.1 (adr 19 i) (WS_at hk) rfl 14 (by decide) (C.2.2.2.2.2.1 _ hw) (fun _ h9 => h9) rfl d1 kk
theorem pf_19_14 (C : Cx G own cc nL ret p s m args meth c) (P : Hp G o s H locs) {i idx : Nat} {x : Int64} (hk : okb 19 i = true) (hw : Cond.fieldLink own idx "ThawPointsModel" "digested" "J" ∈ WT) (d : Dc cc pc (.putfield idx) 3 pc') {β : Type} {K : OM → β} {z : β} (hf : bd (wrL o 19 x) K = z) (kk : ∀ o1 H1 L1, Hp G o1 s H1 L1 → K o1 = z → W p l e R s m args below meth c H1 L1 cells slots Q (F0 m pc' ls rest)) : W p l e R s m args below meth c H locs cells slots Q (F0 m pc ls (.long x :: .ref (rA G 19 i) :: rest)) := by
  obtain ⟨d1, rfl⟩ := d
  refine va_put (ref := "ThawPointsModel") (T := TX6) (N := 15) (ty := .long) (v := .long x) C.1 C.2.1 C.2.2.2.2.2.1 in_X6 tyX6 tyX6_ok nmX6 C.2.2.2.2.1 C.2.2.2.2.2.2.1 P.1 (WS_D G o) P.2 (adr 19 i) (WS_at hk) rfl 14 (by decide) (C.2.2.2.2.2.1 _ hw) (fun _ h9 => h9) rfl (by decide +kernel) rfl rfl (Nat.le_of_ble_eq_true rfl) d1 (fun H1 L1 h1 _ h3 => kk (wrL o 19 x) H1 L1 (P.put ?_ h1 h3) hf)
  refine WS_set hk ?_ (fun a b hb hab => cel_wrL (by decide) hb hk hab)
  rw [celL_self]
  rfl
end RW
end
