section
-- ===== PART A: goes FIRST, ahead of the names: the tables' words, and 'selects' of the private methods out of them =====
/-- a private method of a class that the tables say can be made, by its rows of tables_1 -/
def lw_okq (q : MethodName × Nat) : Prop := (q.1.cls ≠ "java/lang/invoke/MethodHandle" ∧ q.1.cls ≠ "java/lang/invoke/VarHandle") ∧ Cond.instantiable q.1.cls q.2 ∈ tables_1 ∧ Cond.privateMethod q.1 ∈ tables_1 ∧ Cond.instanceMethod q.1 ∈ tables_1
theorem lw_p0 : lw_okq (⟨"FatLean$Scribe", "take", "()V"⟩, 10) := ⟨⟨by decide +kernel, by decide +kernel⟩, List.mem_of_getElem? (i := 25) (by decide +kernel), List.mem_of_getElem? (i := 282) (by decide +kernel), List.mem_of_getElem? (i := 283) (by decide +kernel)⟩
theorem lw_p1 : lw_okq (⟨"FatLean$Scribe", "takeWord", "()V"⟩, 10) := ⟨⟨by decide +kernel, by decide +kernel⟩, List.mem_of_getElem? (i := 25) (by decide +kernel), List.mem_of_getElem? (i := 289) (by decide +kernel), List.mem_of_getElem? (i := 290) (by decide +kernel)⟩
theorem lw_p2 : lw_okq (⟨"FatLean$Scribe", "takeNumber", "()V"⟩, 10) := ⟨⟨by decide +kernel, by decide +kernel⟩, List.mem_of_getElem? (i := 25) (by decide +kernel), List.mem_of_getElem? (i := 296) (by decide +kernel), List.mem_of_getElem? (i := 297) (by decide +kernel)⟩
theorem lw_p3 : lw_okq (⟨"FatLean$Scribe", "fail", "(I)V"⟩, 10) := ⟨⟨by decide +kernel, by decide +kernel⟩, List.mem_of_getElem? (i := 25) (by decide +kernel), List.mem_of_getElem? (i := 300) (by decide +kernel), List.mem_of_getElem? (i := 301) (by decide +kernel)⟩
theorem lw_p4 : lw_okq (⟨"FatLean$Scribe", "isWord", "(Ljava/lang/String;)Z"⟩, 10) := ⟨⟨by decide +kernel, by decide +kernel⟩, List.mem_of_getElem? (i := 25) (by decide +kernel), List.mem_of_getElem? (i := 309) (by decide +kernel), List.mem_of_getElem? (i := 310) (by decide +kernel)⟩
theorem lw_p5 : lw_okq (⟨"FatLean$Scribe", "takeLand", "()V"⟩, 10) := ⟨⟨by decide +kernel, by decide +kernel⟩, List.mem_of_getElem? (i := 25) (by decide +kernel), List.mem_of_getElem? (i := 361) (by decide +kernel), List.mem_of_getElem? (i := 362) (by decide +kernel)⟩
theorem lw_p6 : lw_okq (⟨"FatLean$Scribe", "takeWithin", "(II)I"⟩, 10) := ⟨⟨by decide +kernel, by decide +kernel⟩, List.mem_of_getElem? (i := 25) (by decide +kernel), List.mem_of_getElem? (i := 365) (by decide +kernel), List.mem_of_getElem? (i := 366) (by decide +kernel)⟩
theorem lw_p7 : lw_okq (⟨"FatLean$Scribe", "takeDream", "()V"⟩, 10) := ⟨⟨by decide +kernel, by decide +kernel⟩, List.mem_of_getElem? (i := 25) (by decide +kernel), List.mem_of_getElem? (i := 375) (by decide +kernel), List.mem_of_getElem? (i := 376) (by decide +kernel)⟩
theorem lw_p8 : lw_okq (⟨"FatLean$Scribe", "takeRow", "()I"⟩, 10) := ⟨⟨by decide +kernel, by decide +kernel⟩, List.mem_of_getElem? (i := 25) (by decide +kernel), List.mem_of_getElem? (i := 379) (by decide +kernel), List.mem_of_getElem? (i := 380) (by decide +kernel)⟩
theorem lw_p9 : lw_okq (⟨"FatLean$Scribe", "takePeople", "()V"⟩, 10) := ⟨⟨by decide +kernel, by decide +kernel⟩, List.mem_of_getElem? (i := 25) (by decide +kernel), List.mem_of_getElem? (i := 388) (by decide +kernel), List.mem_of_getElem? (i := 389) (by decide +kernel)⟩
theorem lw_p10 : lw_okq (⟨"FatLean$Scribe", "markOnce", "(I)V"⟩, 10) := ⟨⟨by decide +kernel, by decide +kernel⟩, List.mem_of_getElem? (i := 25) (by decide +kernel), List.mem_of_getElem? (i := 392) (by decide +kernel), List.mem_of_getElem? (i := 393) (by decide +kernel)⟩
theorem lw_p11 : lw_okq (⟨"FatLean$Scribe", "takeGranary", "()V"⟩, 10) := ⟨⟨by decide +kernel, by decide +kernel⟩, List.mem_of_getElem? (i := 25) (by decide +kernel), List.mem_of_getElem? (i := 400) (by decide +kernel), List.mem_of_getElem? (i := 401) (by decide +kernel)⟩
theorem lw_p12 : lw_okq (⟨"FatLean$Scribe", "takePrice", "()V"⟩, 10) := ⟨⟨by decide +kernel, by decide +kernel⟩, List.mem_of_getElem? (i := 25) (by decide +kernel), List.mem_of_getElem? (i := 408) (by decide +kernel), List.mem_of_getElem? (i := 409) (by decide +kernel)⟩
theorem lw_p13 : lw_okq (⟨"FatLean$Scribe", "takeSteward", "()V"⟩, 10) := ⟨⟨by decide +kernel, by decide +kernel⟩, List.mem_of_getElem? (i := 25) (by decide +kernel), List.mem_of_getElem? (i := 413) (by decide +kernel), List.mem_of_getElem? (i := 414) (by decide +kernel)⟩
theorem lw_p14 : lw_okq (⟨"FatLean$Scribe", "takeKind", "()I"⟩, 10) := ⟨⟨by decide +kernel, by decide +kernel⟩, List.mem_of_getElem? (i := 25) (by decide +kernel), List.mem_of_getElem? (i := 417) (by decide +kernel), List.mem_of_getElem? (i := 418) (by decide +kernel)⟩
theorem lw_p15 : lw_okq (⟨"FatLean", "isLand", "(I)Z"⟩, 9) := ⟨⟨by decide +kernel, by decide +kernel⟩, List.mem_of_getElem? (i := 17) (by decide +kernel), List.mem_of_getElem? (i := 447) (by decide +kernel), List.mem_of_getElem? (i := 448) (by decide +kernel)⟩
def lw_privs_1 : List (MethodName × Nat) := [(⟨"FatLean$Scribe", "take", "()V"⟩, 10), (⟨"FatLean$Scribe", "takeWord", "()V"⟩, 10), (⟨"FatLean$Scribe", "takeNumber", "()V"⟩, 10), (⟨"FatLean$Scribe", "fail", "(I)V"⟩, 10), (⟨"FatLean$Scribe", "isWord", "(Ljava/lang/String;)Z"⟩, 10), (⟨"FatLean$Scribe", "takeLand", "()V"⟩, 10), (⟨"FatLean$Scribe", "takeWithin", "(II)I"⟩, 10), (⟨"FatLean$Scribe", "takeDream", "()V"⟩, 10), (⟨"FatLean$Scribe", "takeRow", "()I"⟩, 10), (⟨"FatLean$Scribe", "takePeople", "()V"⟩, 10), (⟨"FatLean$Scribe", "markOnce", "(I)V"⟩, 10), (⟨"FatLean$Scribe", "takeGranary", "()V"⟩, 10), (⟨"FatLean$Scribe", "takePrice", "()V"⟩, 10), (⟨"FatLean$Scribe", "takeSteward", "()V"⟩, 10), (⟨"FatLean$Scribe", "takeKind", "()I"⟩, 10), (⟨"FatLean", "isLand", "(I)Z"⟩, 9)]
theorem lw_r1 : ∀ q ∈ lw_privs_1, lw_okq q := List.forall_mem_cons.mpr ⟨lw_p0, List.forall_mem_cons.mpr ⟨lw_p1, List.forall_mem_cons.mpr ⟨lw_p2, List.forall_mem_cons.mpr ⟨lw_p3, List.forall_mem_cons.mpr ⟨lw_p4, List.forall_mem_cons.mpr ⟨lw_p5, List.forall_mem_cons.mpr ⟨lw_p6, List.forall_mem_cons.mpr ⟨lw_p7, List.forall_mem_cons.mpr ⟨lw_p8, List.forall_mem_cons.mpr ⟨lw_p9, List.forall_mem_cons.mpr ⟨lw_p10, List.forall_mem_cons.mpr ⟨lw_p11, List.forall_mem_cons.mpr ⟨lw_p12, List.forall_mem_cons.mpr ⟨lw_p13, List.forall_mem_cons.mpr ⟨lw_p14, List.forall_mem_cons.mpr ⟨lw_p15, fun _ h => absurd h List.not_mem_nil⟩⟩⟩⟩⟩⟩⟩⟩⟩⟩⟩⟩⟩⟩⟩⟩
theorem lw_p16 : lw_okq (⟨"FatLean", "isReading", "(I)Z"⟩, 9) := ⟨⟨by decide +kernel, by decide +kernel⟩, List.mem_of_getElem? (i := 17) (by decide +kernel), List.mem_of_getElem? (i := 462) (by decide +kernel), List.mem_of_getElem? (i := 463) (by decide +kernel)⟩
theorem lw_p17 : lw_okq (⟨"FatLean$Court", "pass", "(II)I"⟩, 19) := ⟨⟨by decide +kernel, by decide +kernel⟩, List.mem_of_getElem? (i := 66) (by decide +kernel), List.mem_of_getElem? (i := 553) (by decide +kernel), List.mem_of_getElem? (i := 554) (by decide +kernel)⟩
theorem lw_p18 : lw_okq (⟨"FatLean$Court", "wantedOf", "(I)I"⟩, 19) := ⟨⟨by decide +kernel, by decide +kernel⟩, List.mem_of_getElem? (i := 66) (by decide +kernel), List.mem_of_getElem? (i := 579) (by decide +kernel), List.mem_of_getElem? (i := 580) (by decide +kernel)⟩
theorem lw_p19 : lw_okq (⟨"FatLean$Counsel", "plan", "(LFatLean$Court;I)V"⟩, 4) := ⟨⟨by decide +kernel, by decide +kernel⟩, List.mem_of_getElem? (i := 167) (by decide +kernel), List.mem_of_getElem? (i := 647) (by decide +kernel), List.mem_of_getElem? (i := 648) (by decide +kernel)⟩
theorem lw_p20 : lw_okq (⟨"FatLean$Counsel", "addYear", "(III)V"⟩, 4) := ⟨⟨by decide +kernel, by decide +kernel⟩, List.mem_of_getElem? (i := 167) (by decide +kernel), List.mem_of_getElem? (i := 659) (by decide +kernel), List.mem_of_getElem? (i := 660) (by decide +kernel)⟩
theorem lw_p21 : lw_okq (⟨"FatLean$Counsel", "choose", "(II)V"⟩, 4) := ⟨⟨by decide +kernel, by decide +kernel⟩, List.mem_of_getElem? (i := 167) (by decide +kernel), List.mem_of_getElem? (i := 666) (by decide +kernel), List.mem_of_getElem? (i := 667) (by decide +kernel)⟩
theorem lw_p22 : lw_okq (⟨"FatLean$Counsel", "gain", "(III)I"⟩, 4) := ⟨⟨by decide +kernel, by decide +kernel⟩, List.mem_of_getElem? (i := 167) (by decide +kernel), List.mem_of_getElem? (i := 670) (by decide +kernel), List.mem_of_getElem? (i := 671) (by decide +kernel)⟩
theorem lw_p23 : lw_okq (⟨"FatLean", "isSafe", "(IIII)Z"⟩, 9) := ⟨⟨by decide +kernel, by decide +kernel⟩, List.mem_of_getElem? (i := 17) (by decide +kernel), List.mem_of_getElem? (i := 699) (by decide +kernel), List.mem_of_getElem? (i := 700) (by decide +kernel)⟩
theorem lw_p24 : lw_okq (⟨"FatLean", "isAsSeen", "(IIII)Z"⟩, 9) := ⟨⟨by decide +kernel, by decide +kernel⟩, List.mem_of_getElem? (i := 17) (by decide +kernel), List.mem_of_getElem? (i := 727) (by decide +kernel), List.mem_of_getElem? (i := 728) (by decide +kernel)⟩
theorem lw_p25 : lw_okq (⟨"FatLeanModel", "step", "()V"⟩, 28) := ⟨⟨by decide +kernel, by decide +kernel⟩, List.mem_of_getElem? (i := 813) (by decide +kernel), List.mem_of_getElem? (i := 921) (by decide +kernel), List.mem_of_getElem? (i := 922) (by decide +kernel)⟩
theorem lw_p26 : lw_okq (⟨"FatLeanModel", "byteAt", "(I)I"⟩, 28) := ⟨⟨by decide +kernel, by decide +kernel⟩, List.mem_of_getElem? (i := 813) (by decide +kernel), List.mem_of_getElem? (i := 925) (by decide +kernel), List.mem_of_getElem? (i := 926) (by decide +kernel)⟩
theorem lw_p27 : lw_okq (⟨"FatLeanModel", "fails", "(I)V"⟩, 28) := ⟨⟨by decide +kernel, by decide +kernel⟩, List.mem_of_getElem? (i := 813) (by decide +kernel), List.mem_of_getElem? (i := 933) (by decide +kernel), List.mem_of_getElem? (i := 934) (by decide +kernel)⟩
theorem lw_p28 : lw_okq (⟨"FatLeanModel", "readLine", "()V"⟩, 28) := ⟨⟨by decide +kernel, by decide +kernel⟩, List.mem_of_getElem? (i := 813) (by decide +kernel), List.mem_of_getElem? (i := 937) (by decide +kernel), List.mem_of_getElem? (i := 938) (by decide +kernel)⟩
theorem lw_p29 : lw_okq (⟨"FatLeanModel", "wordHere", "()I"⟩, 28) := ⟨⟨by decide +kernel, by decide +kernel⟩, List.mem_of_getElem? (i := 813) (by decide +kernel), List.mem_of_getElem? (i := 941) (by decide +kernel), List.mem_of_getElem? (i := 942) (by decide +kernel)⟩
theorem lw_p30 : lw_okq (⟨"FatLeanModel", "number", "(II)I"⟩, 28) := ⟨⟨by decide +kernel, by decide +kernel⟩, List.mem_of_getElem? (i := 813) (by decide +kernel), List.mem_of_getElem? (i := 946) (by decide +kernel), List.mem_of_getElem? (i := 947) (by decide +kernel)⟩
theorem lw_p31 : lw_okq (⟨"FatLeanModel", "readDream", "()V"⟩, 28) := ⟨⟨by decide +kernel, by decide +kernel⟩, List.mem_of_getElem? (i := 813) (by decide +kernel), List.mem_of_getElem? (i := 950) (by decide +kernel), List.mem_of_getElem? (i := 951) (by decide +kernel)⟩
def lw_privs_2 : List (MethodName × Nat) := [(⟨"FatLean", "isReading", "(I)Z"⟩, 9), (⟨"FatLean$Court", "pass", "(II)I"⟩, 19), (⟨"FatLean$Court", "wantedOf", "(I)I"⟩, 19), (⟨"FatLean$Counsel", "plan", "(LFatLean$Court;I)V"⟩, 4), (⟨"FatLean$Counsel", "addYear", "(III)V"⟩, 4), (⟨"FatLean$Counsel", "choose", "(II)V"⟩, 4), (⟨"FatLean$Counsel", "gain", "(III)I"⟩, 4), (⟨"FatLean", "isSafe", "(IIII)Z"⟩, 9), (⟨"FatLean", "isAsSeen", "(IIII)Z"⟩, 9), (⟨"FatLeanModel", "step", "()V"⟩, 28), (⟨"FatLeanModel", "byteAt", "(I)I"⟩, 28), (⟨"FatLeanModel", "fails", "(I)V"⟩, 28), (⟨"FatLeanModel", "readLine", "()V"⟩, 28), (⟨"FatLeanModel", "wordHere", "()I"⟩, 28), (⟨"FatLeanModel", "number", "(II)I"⟩, 28), (⟨"FatLeanModel", "readDream", "()V"⟩, 28)]
theorem lw_r2 : ∀ q ∈ lw_privs_2, lw_okq q := List.forall_mem_cons.mpr ⟨lw_p16, List.forall_mem_cons.mpr ⟨lw_p17, List.forall_mem_cons.mpr ⟨lw_p18, List.forall_mem_cons.mpr ⟨lw_p19, List.forall_mem_cons.mpr ⟨lw_p20, List.forall_mem_cons.mpr ⟨lw_p21, List.forall_mem_cons.mpr ⟨lw_p22, List.forall_mem_cons.mpr ⟨lw_p23, List.forall_mem_cons.mpr ⟨lw_p24, List.forall_mem_cons.mpr ⟨lw_p25, List.forall_mem_cons.mpr ⟨lw_p26, List.forall_mem_cons.mpr ⟨lw_p27, List.forall_mem_cons.mpr ⟨lw_p28, List.forall_mem_cons.mpr ⟨lw_p29, List.forall_mem_cons.mpr ⟨lw_p30, List.forall_mem_cons.mpr ⟨lw_p31, fun _ h => absurd h List.not_mem_nil⟩⟩⟩⟩⟩⟩⟩⟩⟩⟩⟩⟩⟩⟩⟩⟩
theorem lw_p32 : lw_okq (⟨"FatLeanModel", "readOnce", "(I)V"⟩, 28) := ⟨⟨by decide +kernel, by decide +kernel⟩, List.mem_of_getElem? (i := 813) (by decide +kernel), List.mem_of_getElem? (i := 954) (by decide +kernel), List.mem_of_getElem? (i := 955) (by decide +kernel)⟩
theorem lw_p33 : lw_okq (⟨"FatLeanModel", "capOn", "(I)I"⟩, 28) := ⟨⟨by decide +kernel, by decide +kernel⟩, List.mem_of_getElem? (i := 813) (by decide +kernel), List.mem_of_getElem? (i := 966) (by decide +kernel), List.mem_of_getElem? (i := 967) (by decide +kernel)⟩
theorem lw_p34 : lw_okq (⟨"FatLeanModel", "isLand", "(I)Z"⟩, 28) := ⟨⟨by decide +kernel, by decide +kernel⟩, List.mem_of_getElem? (i := 813) (by decide +kernel), List.mem_of_getElem? (i := 978) (by decide +kernel), List.mem_of_getElem? (i := 979) (by decide +kernel)⟩
theorem lw_p35 : lw_okq (⟨"FatLeanModel", "isReading", "(I)Z"⟩, 28) := ⟨⟨by decide +kernel, by decide +kernel⟩, List.mem_of_getElem? (i := 813) (by decide +kernel), List.mem_of_getElem? (i := 986) (by decide +kernel), List.mem_of_getElem? (i := 987) (by decide +kernel)⟩
theorem lw_p36 : lw_okq (⟨"FatLeanModel", "canBe", "(I)Z"⟩, 28) := ⟨⟨by decide +kernel, by decide +kernel⟩, List.mem_of_getElem? (i := 813) (by decide +kernel), List.mem_of_getElem? (i := 992) (by decide +kernel), List.mem_of_getElem? (i := 993) (by decide +kernel)⟩
theorem lw_p37 : lw_okq (⟨"FatLeanModel", "bearsOn", "(II)I"⟩, 28) := ⟨⟨by decide +kernel, by decide +kernel⟩, List.mem_of_getElem? (i := 813) (by decide +kernel), List.mem_of_getElem? (i := 1003) (by decide +kernel), List.mem_of_getElem? (i := 1004) (by decide +kernel)⟩
theorem lw_p38 : lw_okq (⟨"FatLeanModel", "sets", "(ZII)I"⟩, 28) := ⟨⟨by decide +kernel, by decide +kernel⟩, List.mem_of_getElem? (i := 813) (by decide +kernel), List.mem_of_getElem? (i := 1011) (by decide +kernel), List.mem_of_getElem? (i := 1012) (by decide +kernel)⟩
theorem lw_p39 : lw_okq (⟨"FatLeanModel", "goes", "(II)I"⟩, 28) := ⟨⟨by decide +kernel, by decide +kernel⟩, List.mem_of_getElem? (i := 813) (by decide +kernel), List.mem_of_getElem? (i := 1054) (by decide +kernel), List.mem_of_getElem? (i := 1055) (by decide +kernel)⟩
theorem lw_p40 : lw_okq (⟨"FatLeanModel", "leftOn", "(II)I"⟩, 28) := ⟨⟨by decide +kernel, by decide +kernel⟩, List.mem_of_getElem? (i := 813) (by decide +kernel), List.mem_of_getElem? (i := 1058) (by decide +kernel), List.mem_of_getElem? (i := 1059) (by decide +kernel)⟩
theorem lw_p41 : lw_okq (⟨"FatLeanModel", "goesOn", "(III)I"⟩, 28) := ⟨⟨by decide +kernel, by decide +kernel⟩, List.mem_of_getElem? (i := 813) (by decide +kernel), List.mem_of_getElem? (i := 1062) (by decide +kernel), List.mem_of_getElem? (i := 1063) (by decide +kernel)⟩
theorem lw_p42 : lw_okq (⟨"FatLeanModel", "keepsOn", "(II)I"⟩, 28) := ⟨⟨by decide +kernel, by decide +kernel⟩, List.mem_of_getElem? (i := 813) (by decide +kernel), List.mem_of_getElem? (i := 1073) (by decide +kernel), List.mem_of_getElem? (i := 1074) (by decide +kernel)⟩
theorem lw_p43 : lw_okq (⟨"FatLeanModel", "copies", "(II)V"⟩, 28) := ⟨⟨by decide +kernel, by decide +kernel⟩, List.mem_of_getElem? (i := 813) (by decide +kernel), List.mem_of_getElem? (i := 1088) (by decide +kernel), List.mem_of_getElem? (i := 1089) (by decide +kernel)⟩
theorem lw_p44 : lw_okq (⟨"FatLeanModel", "triesOne", "(I)I"⟩, 28) := ⟨⟨by decide +kernel, by decide +kernel⟩, List.mem_of_getElem? (i := 813) (by decide +kernel), List.mem_of_getElem? (i := 1092) (by decide +kernel), List.mem_of_getElem? (i := 1093) (by decide +kernel)⟩
theorem lw_p45 : lw_okq (⟨"FatLeanModel", "starvesIn", "(I)I"⟩, 28) := ⟨⟨by decide +kernel, by decide +kernel⟩, List.mem_of_getElem? (i := 813) (by decide +kernel), List.mem_of_getElem? (i := 1100) (by decide +kernel), List.mem_of_getElem? (i := 1101) (by decide +kernel)⟩
theorem lw_p46 : lw_okq (⟨"FatLeanModel", "canNow", "()I"⟩, 28) := ⟨⟨by decide +kernel, by decide +kernel⟩, List.mem_of_getElem? (i := 813) (by decide +kernel), List.mem_of_getElem? (i := 1108) (by decide +kernel), List.mem_of_getElem? (i := 1109) (by decide +kernel)⟩
theorem lw_p47 : lw_okq (⟨"FatLeanModel", "areSo", "(III)I"⟩, 28) := ⟨⟨by decide +kernel, by decide +kernel⟩, List.mem_of_getElem? (i := 813) (by decide +kernel), List.mem_of_getElem? (i := 1119) (by decide +kernel), List.mem_of_getElem? (i := 1120) (by decide +kernel)⟩
def lw_privs_3 : List (MethodName × Nat) := [(⟨"FatLeanModel", "readOnce", "(I)V"⟩, 28), (⟨"FatLeanModel", "capOn", "(I)I"⟩, 28), (⟨"FatLeanModel", "isLand", "(I)Z"⟩, 28), (⟨"FatLeanModel", "isReading", "(I)Z"⟩, 28), (⟨"FatLeanModel", "canBe", "(I)Z"⟩, 28), (⟨"FatLeanModel", "bearsOn", "(II)I"⟩, 28), (⟨"FatLeanModel", "sets", "(ZII)I"⟩, 28), (⟨"FatLeanModel", "goes", "(II)I"⟩, 28), (⟨"FatLeanModel", "leftOn", "(II)I"⟩, 28), (⟨"FatLeanModel", "goesOn", "(III)I"⟩, 28), (⟨"FatLeanModel", "keepsOn", "(II)I"⟩, 28), (⟨"FatLeanModel", "copies", "(II)V"⟩, 28), (⟨"FatLeanModel", "triesOne", "(I)I"⟩, 28), (⟨"FatLeanModel", "starvesIn", "(I)I"⟩, 28), (⟨"FatLeanModel", "canNow", "()I"⟩, 28), (⟨"FatLeanModel", "areSo", "(III)I"⟩, 28)]
theorem lw_r3 : ∀ q ∈ lw_privs_3, lw_okq q := List.forall_mem_cons.mpr ⟨lw_p32, List.forall_mem_cons.mpr ⟨lw_p33, List.forall_mem_cons.mpr ⟨lw_p34, List.forall_mem_cons.mpr ⟨lw_p35, List.forall_mem_cons.mpr ⟨lw_p36, List.forall_mem_cons.mpr ⟨lw_p37, List.forall_mem_cons.mpr ⟨lw_p38, List.forall_mem_cons.mpr ⟨lw_p39, List.forall_mem_cons.mpr ⟨lw_p40, List.forall_mem_cons.mpr ⟨lw_p41, List.forall_mem_cons.mpr ⟨lw_p42, List.forall_mem_cons.mpr ⟨lw_p43, List.forall_mem_cons.mpr ⟨lw_p44, List.forall_mem_cons.mpr ⟨lw_p45, List.forall_mem_cons.mpr ⟨lw_p46, List.forall_mem_cons.mpr ⟨lw_p47, fun _ h => absurd h List.not_mem_nil⟩⟩⟩⟩⟩⟩⟩⟩⟩⟩⟩⟩⟩⟩⟩⟩
theorem lw_p48 : lw_okq (⟨"FatLeanModel", "oddsOf", "(I)J"⟩, 28) := ⟨⟨by decide +kernel, by decide +kernel⟩, List.mem_of_getElem? (i := 813) (by decide +kernel), List.mem_of_getElem? (i := 1123) (by decide +kernel), List.mem_of_getElem? (i := 1124) (by decide +kernel)⟩
theorem lw_p49 : lw_okq (⟨"FatLeanModel", "bestIn", "(II)J"⟩, 28) := ⟨⟨by decide +kernel, by decide +kernel⟩, List.mem_of_getElem? (i := 813) (by decide +kernel), List.mem_of_getElem? (i := 1134) (by decide +kernel), List.mem_of_getElem? (i := 1135) (by decide +kernel)⟩
theorem lw_p50 : lw_okq (⟨"FatLeanModel", "yearsLeft", "(I)I"⟩, 28) := ⟨⟨by decide +kernel, by decide +kernel⟩, List.mem_of_getElem? (i := 813) (by decide +kernel), List.mem_of_getElem? (i := 1138) (by decide +kernel), List.mem_of_getElem? (i := 1139) (by decide +kernel)⟩
theorem lw_p51 : lw_okq (⟨"FatLeanModel", "layWorths", "(I)V"⟩, 28) := ⟨⟨by decide +kernel, by decide +kernel⟩, List.mem_of_getElem? (i := 813) (by decide +kernel), List.mem_of_getElem? (i := 1142) (by decide +kernel), List.mem_of_getElem? (i := 1143) (by decide +kernel)⟩
theorem lw_p52 : lw_okq (⟨"FatLeanModel", "bestSo", "(IIIII)J"⟩, 28) := ⟨⟨by decide +kernel, by decide +kernel⟩, List.mem_of_getElem? (i := 813) (by decide +kernel), List.mem_of_getElem? (i := 1149) (by decide +kernel), List.mem_of_getElem? (i := 1150) (by decide +kernel)⟩
theorem lw_p53 : lw_okq (⟨"FatLeanModel", "byKept", "(IIIIII)J"⟩, 28) := ⟨⟨by decide +kernel, by decide +kernel⟩, List.mem_of_getElem? (i := 813) (by decide +kernel), List.mem_of_getElem? (i := 1153) (by decide +kernel), List.mem_of_getElem? (i := 1154) (by decide +kernel)⟩
theorem lw_p54 : lw_okq (⟨"FatLeanModel", "mostKept", "(II)I"⟩, 28) := ⟨⟨by decide +kernel, by decide +kernel⟩, List.mem_of_getElem? (i := 813) (by decide +kernel), List.mem_of_getElem? (i := 1157) (by decide +kernel), List.mem_of_getElem? (i := 1158) (by decide +kernel)⟩
theorem lw_p55 : lw_okq (⟨"FatLeanModel", "isSafe", "()Z"⟩, 28) := ⟨⟨by decide +kernel, by decide +kernel⟩, List.mem_of_getElem? (i := 813) (by decide +kernel), List.mem_of_getElem? (i := 1177) (by decide +kernel), List.mem_of_getElem? (i := 1178) (by decide +kernel)⟩
theorem lw_p56 : lw_okq (⟨"FatLeanModel", "isAsSeen", "(IIII)Z"⟩, 28) := ⟨⟨by decide +kernel, by decide +kernel⟩, List.mem_of_getElem? (i := 813) (by decide +kernel), List.mem_of_getElem? (i := 1201) (by decide +kernel), List.mem_of_getElem? (i := 1202) (by decide +kernel)⟩
def lw_privs_4 : List (MethodName × Nat) := [(⟨"FatLeanModel", "oddsOf", "(I)J"⟩, 28), (⟨"FatLeanModel", "bestIn", "(II)J"⟩, 28), (⟨"FatLeanModel", "yearsLeft", "(I)I"⟩, 28), (⟨"FatLeanModel", "layWorths", "(I)V"⟩, 28), (⟨"FatLeanModel", "bestSo", "(IIIII)J"⟩, 28), (⟨"FatLeanModel", "byKept", "(IIIIII)J"⟩, 28), (⟨"FatLeanModel", "mostKept", "(II)I"⟩, 28), (⟨"FatLeanModel", "isSafe", "()Z"⟩, 28), (⟨"FatLeanModel", "isAsSeen", "(IIII)Z"⟩, 28)]
theorem lw_r4 : ∀ q ∈ lw_privs_4, lw_okq q := List.forall_mem_cons.mpr ⟨lw_p48, List.forall_mem_cons.mpr ⟨lw_p49, List.forall_mem_cons.mpr ⟨lw_p50, List.forall_mem_cons.mpr ⟨lw_p51, List.forall_mem_cons.mpr ⟨lw_p52, List.forall_mem_cons.mpr ⟨lw_p53, List.forall_mem_cons.mpr ⟨lw_p54, List.forall_mem_cons.mpr ⟨lw_p55, List.forall_mem_cons.mpr ⟨lw_p56, fun _ h => absurd h List.not_mem_nil⟩⟩⟩⟩⟩⟩⟩⟩⟩
def lw_privs : List (MethodName × Nat) := lw_privs_1 ++ (lw_privs_2 ++ (lw_privs_3 ++ (lw_privs_4)))
def lw_tbl : List Cond := k2_sels lw_privs ++ tables_1
theorem lw_privs_ok : ∀ q ∈ lw_privs, lw_okq q := by
  show ∀ q ∈ lw_privs_1 ++ (lw_privs_2 ++ (lw_privs_3 ++ (lw_privs_4))), lw_okq q
  exact List.forall_mem_append.mpr ⟨lw_r1, List.forall_mem_append.mpr ⟨lw_r2, List.forall_mem_append.mpr ⟨lw_r3, lw_r4⟩⟩⟩
-- ===== end of PART A; then your names; then what follows =====
end
section
/-! ===== BEGIN words of one list among another's, by their places ===== -/
theorem goodIn_r {big : List Cond} (ws : List Cond) (ps : List Nat) (hp : ws = ps.filterMap (fun i => big[i]?)) (h : ws.all goodWord = true) : GoodIn big ws := by
  intro w hw
  have h1 := List.all_eq_true.mp h w hw
  rw [hp] at hw
  obtain ⟨i, -, hi⟩ := List.mem_filterMap.mp hw
  have hm : w ∈ big := by first | exact List.mem_of_getElem? hi | exact List.getElem?_mem hi
  exact ⟨hm, good_of_word h1⟩
theorem goodIn_app {big a b : List Cond} (ha : GoodIn big a) (hb : GoodIn big b) : GoodIn big (a ++ b) := fun w h => (List.mem_append.mp h).elim (ha w) (hb w)
theorem goodIn_ca {big a b : List Cond} {c : Cond} (ha : GoodIn big (c :: a)) (hb : GoodIn big b) : GoodIn big (c :: (a ++ b)) := fun w h => (List.mem_cons.mp h).elim (fun e => ha w (List.mem_cons.mpr (Or.inl e))) (fun h => (List.mem_append.mp h).elim (fun h => ha w (List.mem_cons.mpr (Or.inr h))) (hb w))
theorem goodIn_sub {big ws : List Cond} (hm : ∀ w ∈ ws, w ∈ big) (h : ws.all goodWord = true) : GoodIn big ws := fun w hw => ⟨hm w hw, good_of_word (List.all_eq_true.mp h w hw)⟩
/-! ===== END ===== -/
def RX0 : String := "FatLean$Books"
def TX0 : u_T := fun k => match k with
  | 0 => ("FatLean$Books", "years", "[I", true)
  | 1 => ("FatLean$Books", "stores", "[I", true)
  | _ => ("FatLean$Books", "known", "I", false)
def tyX0 : Nat → FieldType := fun k => match k with
  | 0 => .array .int
  | 1 => .array .int
  | _ => .int
theorem nmX0 : ∀ a, a < 3 → ∀ b, b < 3 → a ≠ b → (TX0 a).2.1 ≠ (TX0 b).2.1 := by decide +kernel
theorem tyX0_ok : ∀ k, k < 3 → parseFieldDescriptor (TX0 k).2.2.1 = some (tyX0 k) := by decide +kernel
abbrev cX0_init : ByteArray := prog_2_method_1_code
def yX0_init : MethodName := ⟨RX0, "<init>", "()V"⟩
abbrev cX0_note : ByteArray := prog_2_method_2_code
def yX0_note : MethodName := ⟨RX0, "note", "(II)Z"⟩
abbrev cX0_agree : ByteArray := prog_2_method_3_code
def yX0_agree : MethodName := ⟨RX0, "agree", "(II)Z"⟩
def RX1 : String := "FatLean$Counsel"
def TX1 : u_T := fun k => match k with
  | 0 => ("FatLean$Counsel", "sums", "[[I", true)
  | 1 => ("FatLean$Counsel", "choices", "[I", true)
  | 2 => ("FatLean$Counsel", "court", "LFatLean$Court;", false)
  | _ => ("FatLean$Counsel", "years", "I", false)
def tyX1 : Nat → FieldType := fun k => match k with
  | 0 => .array (.array .int)
  | 1 => .array .int
  | 2 => .object "FatLean$Court"
  | _ => .int
theorem nmX1 : ∀ a, a < 4 → ∀ b, b < 4 → a ≠ b → (TX1 a).2.1 ≠ (TX1 b).2.1 := by decide +kernel
theorem tyX1_ok : ∀ k, k < 4 → parseFieldDescriptor (TX1 k).2.2.1 = some (tyX1 k) := by decide +kernel
abbrev cX1_init : ByteArray := prog_3_method_1_code
def yX1_init : MethodName := ⟨RX1, "<init>", "()V"⟩
abbrev cX1_greatest : ByteArray := prog_3_method_2_code
def yX1_greatest : MethodName := ⟨RX1, "greatest", "(LFatLean$Court;II)I"⟩
abbrev cX1_leastChoice : ByteArray := prog_3_method_3_code
def yX1_leastChoice : MethodName := ⟨RX1, "leastChoice", "(LFatLean$Court;III)I"⟩
abbrev cX1_plan : ByteArray := prog_3_method_4_code
def yX1_plan : MethodName := ⟨RX1, "plan", "(LFatLean$Court;I)V"⟩
abbrev cX1_sumFrom : ByteArray := prog_3_method_5_code
def yX1_sumFrom : MethodName := ⟨RX1, "sumFrom", "(LFatLean$Counsel;II)V"⟩
abbrev cX1_addYear : ByteArray := prog_3_method_6_code
def yX1_addYear : MethodName := ⟨RX1, "addYear", "(III)V"⟩
abbrev cX1_choose : ByteArray := prog_3_method_7_code
def yX1_choose : MethodName := ⟨RX1, "choose", "(II)V"⟩
abbrev cX1_gain : ByteArray := prog_3_method_8_code
def yX1_gain : MethodName := ⟨RX1, "gain", "(III)I"⟩
def RX2 : String := "FatLean$Court"
def TX2 : u_T := fun k => match k with
  | 0 => ("FatLean$Court", "fatYields", "[I", true)
  | 1 => ("FatLean$Court", "leanYields", "[I", true)
  | 2 => ("FatLean$Court", "rows", "[I", true)
  | 3 => ("FatLean$Court", "odds", "[I", true)
  | 4 => ("FatLean$Court", "lands", "I", false)
  | 5 => ("FatLean$Court", "readings", "I", false)
  | 6 => ("FatLean$Court", "need", "I", false)
  | 7 => ("FatLean$Court", "hunger", "I", false)
  | 8 => ("FatLean$Court", "cap", "I", false)
  | 9 => ("FatLean$Court", "rot", "I", false)
  | 10 => ("FatLean$Court", "store", "I", false)
  | 11 => ("FatLean$Court", "fatPrice", "I", false)
  | 12 => ("FatLean$Court", "leanPrice", "I", false)
  | 13 => ("FatLean$Court", "kind", "I", false)
  | 14 => ("FatLean$Court", "v", "I", false)
  | 15 => ("FatLean$Court", "year", "I", false)
  | 16 => ("FatLean$Court", "past", "I", false)
  | 17 => ("FatLean$Court", "money", "I", false)
  | _ => ("FatLean$Court", "starved", "I", false)
def tyX2 : Nat → FieldType := fun k => match k with
  | 0 => .array .int
  | 1 => .array .int
  | 2 => .array .int
  | 3 => .array .int
  | 4 => .int
  | 5 => .int
  | 6 => .int
  | 7 => .int
  | 8 => .int
  | 9 => .int
  | 10 => .int
  | 11 => .int
  | 12 => .int
  | 13 => .int
  | 14 => .int
  | 15 => .int
  | 16 => .int
  | 17 => .int
  | _ => .int
theorem nmX2 : ∀ a, a < 19 → ∀ b, b < 19 → a ≠ b → (TX2 a).2.1 ≠ (TX2 b).2.1 := by decide +kernel
theorem tyX2_ok : ∀ k, k < 19 → parseFieldDescriptor (TX2 k).2.2.1 = some (tyX2 k) := by decide +kernel
abbrev cX2_init : ByteArray := prog_4_method_1_code
def yX2_init : MethodName := ⟨RX2, "<init>", "()V"⟩
abbrev cX2_begin : ByteArray := prog_4_method_2_code
def yX2_begin : MethodName := ⟨RX2, "begin", "()V"⟩
abbrev cX2_copy : ByteArray := prog_4_method_3_code
def yX2_copy : MethodName := ⟨RX2, "copy", "(LFatLean$Court;)V"⟩
abbrev cX2_appoint : ByteArray := prog_4_method_4_code
def yX2_appoint : MethodName := ⟨RX2, "appoint", "(II)V"⟩
abbrev cX2_addLand : ByteArray := prog_4_method_5_code
def yX2_addLand : MethodName := ⟨RX2, "addLand", "(II)V"⟩
abbrev cX2_addReading : ByteArray := prog_4_method_6_code
def yX2_addReading : MethodName := ⟨RX2, "addReading", "(II)V"⟩
abbrev cX2_yields : ByteArray := prog_4_method_7_code
def yX2_yields : MethodName := ⟨RX2, "yields", "(I)[I"⟩
abbrev cX2_priceIn : ByteArray := prog_4_method_8_code
def yX2_priceIn : MethodName := ⟨RX2, "priceIn", "(I)I"⟩
abbrev cX2_harvest : ByteArray := prog_4_method_9_code
def yX2_harvest : MethodName := ⟨RX2, "harvest", "(I)I"⟩
abbrev cX2_isOver : ByteArray := prog_4_method_10_code
def yX2_isOver : MethodName := ⟨RX2, "isOver", "()Z"⟩
abbrev cX2_foodIn : ByteArray := prog_4_method_11_code
def yX2_foodIn : MethodName := ⟨RX2, "foodIn", "(I)I"⟩
abbrev cX2_leftOf : ByteArray := prog_4_method_12_code
def yX2_leftOf : MethodName := ⟨RX2, "leftOf", "(I)I"⟩
abbrev cX2_hungryOf : ByteArray := prog_4_method_13_code
def yX2_hungryOf : MethodName := ⟨RX2, "hungryOf", "(I)I"⟩
abbrev cX2_unrotten : ByteArray := prog_4_method_14_code
def yX2_unrotten : MethodName := ⟨RX2, "unrotten", "(I)I"⟩
abbrev cX2_keptOf : ByteArray := prog_4_method_15_code
def yX2_keptOf : MethodName := ⟨RX2, "keptOf", "(I)I"⟩
abbrev cX2_wantedOf : ByteArray := prog_4_method_16_code
def yX2_wantedOf : MethodName := ⟨RX2, "wantedOf", "(I)I"⟩
abbrev cX2_pass : ByteArray := prog_4_method_17_code
def yX2_pass : MethodName := ⟨RX2, "pass", "(II)I"⟩
abbrev cX2_passTold : ByteArray := prog_4_method_18_code
def yX2_passTold : MethodName := ⟨RX2, "passTold", "(II)I"⟩
abbrev cX2_passByHim : ByteArray := prog_4_method_19_code
def yX2_passByHim : MethodName := ⟨RX2, "passByHim", "(I)I"⟩
abbrev cX2_follow : ByteArray := prog_4_method_20_code
def yX2_follow : MethodName := ⟨RX2, "follow", "(II)V"⟩
abbrev cX2_firstHunger : ByteArray := prog_4_method_21_code
def yX2_firstHunger : MethodName := ⟨RX2, "firstHunger", "(I)I"⟩
abbrev cX2_fatIn : ByteArray := prog_4_method_22_code
def yX2_fatIn : MethodName := ⟨RX2, "fatIn", "(II)I"⟩
abbrev cX2_canBe : ByteArray := prog_4_method_23_code
def yX2_canBe : MethodName := ⟨RX2, "canBe", "(I)Z"⟩
abbrev cX2_possible : ByteArray := prog_4_method_24_code
def yX2_possible : MethodName := ⟨RX2, "possible", "()I"⟩
abbrev cX2_telling : ByteArray := prog_4_method_25_code
def yX2_telling : MethodName := ⟨RX2, "telling", "(III)I"⟩
abbrev cX2_oddsOf : ByteArray := prog_4_method_26_code
def yX2_oddsOf : MethodName := ⟨RX2, "oddsOf", "(I)I"⟩
def RX3 : String := "FatLean$Scribe"
def TX3 : u_T := fun k => match k with
  | 0 => ("FatLean$Scribe", "tape", "[I", true)
  | 1 => ("FatLean$Scribe", "length", "I", false)
  | 2 => ("FatLean$Scribe", "fault", "I", false)
  | 3 => ("FatLean$Scribe", "place", "I", false)
  | 4 => ("FatLean$Scribe", "told", "LFatLean$Court;", false)
  | 5 => ("FatLean$Scribe", "once", "I", false)
  | 6 => ("FatLean$Scribe", "token", "I", false)
  | 7 => ("FatLean$Scribe", "start", "I", false)
  | 8 => ("FatLean$Scribe", "next", "I", false)
  | _ => ("FatLean$Scribe", "number", "I", false)
def tyX3 : Nat → FieldType := fun k => match k with
  | 0 => .array .int
  | 1 => .int
  | 2 => .int
  | 3 => .int
  | 4 => .object "FatLean$Court"
  | 5 => .int
  | 6 => .int
  | 7 => .int
  | 8 => .int
  | _ => .int
theorem nmX3 : ∀ a, a < 10 → ∀ b, b < 10 → a ≠ b → (TX3 a).2.1 ≠ (TX3 b).2.1 := by decide +kernel
theorem tyX3_ok : ∀ k, k < 10 → parseFieldDescriptor (TX3 k).2.2.1 = some (tyX3 k) := by decide +kernel
abbrev cX3_init : ByteArray := prog_5_method_1_code
def yX3_init : MethodName := ⟨RX3, "<init>", "()V"⟩
abbrev cX3_write : ByteArray := prog_5_method_2_code
def yX3_write : MethodName := ⟨RX3, "write", "(I)Z"⟩
abbrev cX3_begin : ByteArray := prog_5_method_3_code
def yX3_begin : MethodName := ⟨RX3, "begin", "(LFatLean$Court;)V"⟩
abbrev cX3_findsLine : ByteArray := prog_5_method_4_code
def yX3_findsLine : MethodName := ⟨RX3, "findsLine", "()Z"⟩
abbrev cX3_fail : ByteArray := prog_5_method_5_code
def yX3_fail : MethodName := ⟨RX3, "fail", "(I)V"⟩
abbrev cX3_take : ByteArray := prog_5_method_6_code
def yX3_take : MethodName := ⟨RX3, "take", "()V"⟩
abbrev cX3_takeWord : ByteArray := prog_5_method_7_code
def yX3_takeWord : MethodName := ⟨RX3, "takeWord", "()V"⟩
abbrev cX3_takeNumber : ByteArray := prog_5_method_8_code
def yX3_takeNumber : MethodName := ⟨RX3, "takeNumber", "()V"⟩
abbrev cX3_isLetter : ByteArray := prog_5_method_9_code
def yX3_isLetter : MethodName := ⟨RX3, "isLetter", "(I)Z"⟩
abbrev cX3_isFigure : ByteArray := prog_5_method_10_code
def yX3_isFigure : MethodName := ⟨RX3, "isFigure", "(I)Z"⟩
abbrev cX3_isWord : ByteArray := prog_5_method_11_code
def yX3_isWord : MethodName := ⟨RX3, "isWord", "(Ljava/lang/String;)Z"⟩
abbrev cX3_takeLine : ByteArray := prog_5_method_12_code
def yX3_takeLine : MethodName := ⟨RX3, "takeLine", "()V"⟩
abbrev cX3_takeLand : ByteArray := prog_5_method_13_code
def yX3_takeLand : MethodName := ⟨RX3, "takeLand", "()V"⟩
abbrev cX3_takeDream : ByteArray := prog_5_method_14_code
def yX3_takeDream : MethodName := ⟨RX3, "takeDream", "()V"⟩
abbrev cX3_takePeople : ByteArray := prog_5_method_15_code
def yX3_takePeople : MethodName := ⟨RX3, "takePeople", "()V"⟩
abbrev cX3_takeGranary : ByteArray := prog_5_method_16_code
def yX3_takeGranary : MethodName := ⟨RX3, "takeGranary", "()V"⟩
abbrev cX3_takePrice : ByteArray := prog_5_method_17_code
def yX3_takePrice : MethodName := ⟨RX3, "takePrice", "()V"⟩
abbrev cX3_takeSteward : ByteArray := prog_5_method_18_code
def yX3_takeSteward : MethodName := ⟨RX3, "takeSteward", "()V"⟩
abbrev cX3_markOnce : ByteArray := prog_5_method_19_code
def yX3_markOnce : MethodName := ⟨RX3, "markOnce", "(I)V"⟩
abbrev cX3_takeWithin : ByteArray := prog_5_method_20_code
def yX3_takeWithin : MethodName := ⟨RX3, "takeWithin", "(II)I"⟩
abbrev cX3_takeRow : ByteArray := prog_5_method_21_code
def yX3_takeRow : MethodName := ⟨RX3, "takeRow", "()I"⟩
abbrev cX3_takeKind : ByteArray := prog_5_method_22_code
def yX3_takeKind : MethodName := ⟨RX3, "takeKind", "()I"⟩
def RX4 : String := "FatLean$Sheet"
def TX4 : u_T := fun k => match k with
  | 0 => ("FatLean$Sheet", "cells", "[I", true)
  | 1 => ("FatLean$Sheet", "size", "I", false)
  | _ => ("FatLean$Sheet", "lane", "I", false)
def tyX4 : Nat → FieldType := fun k => match k with
  | 0 => .array .int
  | 1 => .int
  | _ => .int
theorem nmX4 : ∀ a, a < 3 → ∀ b, b < 3 → a ≠ b → (TX4 a).2.1 ≠ (TX4 b).2.1 := by decide +kernel
theorem tyX4_ok : ∀ k, k < 3 → parseFieldDescriptor (TX4 k).2.2.1 = some (tyX4 k) := by decide +kernel
abbrev cX4_init : ByteArray := prog_6_method_1_code
def yX4_init : MethodName := ⟨RX4, "<init>", "()V"⟩
abbrev cX4_isNothing : ByteArray := prog_6_method_2_code
def yX4_isNothing : MethodName := ⟨RX4, "isNothing", "()Z"⟩
abbrev cX4_renew : ByteArray := prog_6_method_3_code
def yX4_renew : MethodName := ⟨RX4, "renew", "(II)V"⟩
abbrev cX4_put : ByteArray := prog_6_method_4_code
def yX4_put : MethodName := ⟨RX4, "put", "(II)V"⟩
abbrev cX4_faultAt : ByteArray := prog_6_method_5_code
def yX4_faultAt : MethodName := ⟨RX4, "faultAt", "(I)I"⟩
abbrev cX4_faultOfYear : ByteArray := prog_6_method_6_code
def yX4_faultOfYear : MethodName := ⟨RX4, "faultOfYear", "(II)I"⟩
def RX5 : String := "FatLean"
def TX5 : u_T := fun k => match k with
  | 0 => ("FatLean", "scribe", "LFatLean$Scribe;", true)
  | 1 => ("FatLean", "court", "LFatLean$Court;", true)
  | 2 => ("FatLean", "trial", "LFatLean$Court;", true)
  | 3 => ("FatLean", "counsel", "LFatLean$Counsel;", true)
  | 4 => ("FatLean", "books", "LFatLean$Books;", true)
  | 5 => ("FatLean", "images", "[LFatLean$Court;", true)
  | 6 => ("FatLean", "imaged", "[Z", true)
  | 7 => ("FatLean", "sheets", "[LFatLean$Sheet;", true)
  | _ => ("FatLean", "tornFault", "I", false)
def tyX5 : Nat → FieldType := fun k => match k with
  | 0 => .object "FatLean$Scribe"
  | 1 => .object "FatLean$Court"
  | 2 => .object "FatLean$Court"
  | 3 => .object "FatLean$Counsel"
  | 4 => .object "FatLean$Books"
  | 5 => .array (.object "FatLean$Court")
  | 6 => .array .boolean
  | 7 => .array (.object "FatLean$Sheet")
  | _ => .int
theorem nmX5 : ∀ a, a < 9 → ∀ b, b < 9 → a ≠ b → (TX5 a).2.1 ≠ (TX5 b).2.1 := by decide +kernel
theorem tyX5_ok : ∀ k, k < 9 → parseFieldDescriptor (TX5 k).2.2.1 = some (tyX5 k) := by decide +kernel
abbrev cX5_init : ByteArray := prog_1_method_1_code
def yX5_init : MethodName := ⟨RX5, "<init>", "()V"⟩
abbrev cX5_feed : ByteArray := prog_1_method_2_code
def yX5_feed : MethodName := ⟨RX5, "feed", "(I)I"⟩
abbrev cX5_end : ByteArray := prog_1_method_3_code
def yX5_end : MethodName := ⟨RX5, "end", "(I)I"⟩
abbrev cX5_text : ByteArray := prog_1_method_4_code
def yX5_text : MethodName := ⟨RX5, "text", "()I"⟩
abbrev cX5_fault : ByteArray := prog_1_method_5_code
def yX5_fault : MethodName := ⟨RX5, "fault", "()I"⟩
abbrev cX5_rule : ByteArray := prog_1_method_6_code
def yX5_rule : MethodName := ⟨RX5, "rule", "(I)I"⟩
abbrev cX5_land : ByteArray := prog_1_method_7_code
def yX5_land : MethodName := ⟨RX5, "land", "(II)I"⟩
abbrev cX5_reading : ByteArray := prog_1_method_8_code
def yX5_reading : MethodName := ⟨RX5, "reading", "(II)I"⟩
abbrev cX5_bears : ByteArray := prog_1_method_9_code
def yX5_bears : MethodName := ⟨RX5, "bears", "(I)I"⟩
abbrev cX5_till : ByteArray := prog_1_method_10_code
def yX5_till : MethodName := ⟨RX5, "till", "(III)I"⟩
abbrev cX5_weigh : ByteArray := prog_1_method_11_code
def yX5_weigh : MethodName := ⟨RX5, "weigh", "(II)I"⟩
abbrev cX5_need : ByteArray := prog_1_method_12_code
def yX5_need : MethodName := ⟨RX5, "need", "(I)I"⟩
abbrev cX5_hunger : ByteArray := prog_1_method_13_code
def yX5_hunger : MethodName := ⟨RX5, "hunger", "(I)I"⟩
abbrev cX5_cap : ByteArray := prog_1_method_14_code
def yX5_cap : MethodName := ⟨RX5, "cap", "(I)I"⟩
abbrev cX5_rot : ByteArray := prog_1_method_15_code
def yX5_rot : MethodName := ⟨RX5, "rot", "(I)I"⟩
abbrev cX5_fill : ByteArray := prog_1_method_16_code
def yX5_fill : MethodName := ⟨RX5, "fill", "(I)I"⟩
abbrev cX5_price : ByteArray := prog_1_method_17_code
def yX5_price : MethodName := ⟨RX5, "price", "(II)I"⟩
abbrev cX5_steward : ByteArray := prog_1_method_18_code
def yX5_steward : MethodName := ⟨RX5, "steward", "(II)I"⟩
abbrev cX5_go : ByteArray := prog_1_method_19_code
def yX5_go : MethodName := ⟨RX5, "go", "(II)I"⟩
abbrev cX5_year : ByteArray := prog_1_method_20_code
def yX5_year : MethodName := ⟨RX5, "year", "(I)I"⟩
abbrev cX5_keeps : ByteArray := prog_1_method_21_code
def yX5_keeps : MethodName := ⟨RX5, "keeps", "(I)I"⟩
abbrev cX5_ahead : ByteArray := prog_1_method_22_code
def yX5_ahead : MethodName := ⟨RX5, "ahead", "(III)I"⟩
abbrev cX5_when : ByteArray := prog_1_method_23_code
def yX5_when : MethodName := ⟨RX5, "when", "(I)I"⟩
abbrev cX5_can : ByteArray := prog_1_method_24_code
def yX5_can : MethodName := ⟨RX5, "can", "()I"⟩
abbrev cX5_fat : ByteArray := prog_1_method_25_code
def yX5_fat : MethodName := ⟨RX5, "fat", "(II)J"⟩
abbrev cX5_best : ByteArray := prog_1_method_26_code
def yX5_best : MethodName := ⟨RX5, "best", "(II)J"⟩
abbrev cX5_choice : ByteArray := prog_1_method_27_code
def yX5_choice : MethodName := ⟨RX5, "choice", "(II)I"⟩
abbrev cX5_knowing : ByteArray := prog_1_method_28_code
def yX5_knowing : MethodName := ⟨RX5, "knowing", "(II)J"⟩
abbrev cX5_worth : ByteArray := prog_1_method_29_code
def yX5_worth : MethodName := ⟨RX5, "worth", "(III)J"⟩
abbrev cX5_safe : ByteArray := prog_1_method_30_code
def yX5_safe : MethodName := ⟨RX5, "safe", "(I)I"⟩
abbrev cX5_granary : ByteArray := prog_1_method_31_code
def yX5_granary : MethodName := ⟨RX5, "granary", "()I"⟩
abbrev cX5_least : ByteArray := prog_1_method_32_code
def yX5_least : MethodName := ⟨RX5, "least", "()I"⟩
abbrev cX5_see : ByteArray := prog_1_method_33_code
def yX5_see : MethodName := ⟨RX5, "see", "(II)I"⟩
abbrev cX5_forget : ByteArray := prog_1_method_34_code
def yX5_forget : MethodName := ⟨RX5, "forget", "(I)I"⟩
abbrev cX5_stewards : ByteArray := prog_1_method_35_code
def yX5_stewards : MethodName := ⟨RX5, "stewards", "(II)I"⟩
abbrev cX5_hoards : ByteArray := prog_1_method_36_code
def yX5_hoards : MethodName := ⟨RX5, "hoards", "(I)I"⟩
abbrev cX5_fits : ByteArray := prog_1_method_37_code
def yX5_fits : MethodName := ⟨RX5, "fits", "()I"⟩
abbrev cX5_drift : ByteArray := prog_1_method_38_code
def yX5_drift : MethodName := ⟨RX5, "drift", "(III)I"⟩
abbrev cX5_keep : ByteArray := prog_1_method_39_code
def yX5_keep : MethodName := ⟨RX5, "keep", "(I)I"⟩
abbrev cX5_back : ByteArray := prog_1_method_40_code
def yX5_back : MethodName := ⟨RX5, "back", "(I)I"⟩
abbrev cX5_sheet : ByteArray := prog_1_method_41_code
def yX5_sheet : MethodName := ⟨RX5, "sheet", "(III)I"⟩
abbrev cX5_lay : ByteArray := prog_1_method_42_code
def yX5_lay : MethodName := ⟨RX5, "lay", "(III)I"⟩
abbrev cX5_read : ByteArray := prog_1_method_43_code
def yX5_read : MethodName := ⟨RX5, "read", "(IIII)I"⟩
abbrev cX5_torn : ByteArray := prog_1_method_44_code
def yX5_torn : MethodName := ⟨RX5, "torn", "()I"⟩
abbrev cX5_count : ByteArray := prog_1_method_45_code
def yX5_count : MethodName := ⟨RX5, "count", "(I)I"⟩
abbrev cX5_within : ByteArray := prog_1_method_46_code
def yX5_within : MethodName := ⟨RX5, "within", "(III)Z"⟩
abbrev cX5_isFlag : ByteArray := prog_1_method_47_code
def yX5_isFlag : MethodName := ⟨RX5, "isFlag", "(I)Z"⟩
abbrev cX5_has : ByteArray := prog_1_method_48_code
def yX5_has : MethodName := ⟨RX5, "has", "(II)Z"⟩
abbrev cX5_isRot : ByteArray := prog_1_method_49_code
def yX5_isRot : MethodName := ⟨RX5, "isRot", "(I)Z"⟩
abbrev cX5_isSheet : ByteArray := prog_1_method_50_code
def yX5_isSheet : MethodName := ⟨RX5, "isSheet", "(I)Z"⟩
abbrev cX5_isLane : ByteArray := prog_1_method_51_code
def yX5_isLane : MethodName := ⟨RX5, "isLane", "(I)Z"⟩
abbrev cX5_isLand : ByteArray := prog_1_method_52_code
def yX5_isLand : MethodName := ⟨RX5, "isLand", "(I)Z"⟩
abbrev cX5_isReading : ByteArray := prog_1_method_53_code
def yX5_isReading : MethodName := ⟨RX5, "isReading", "(I)Z"⟩
abbrev cX5_isSafe : ByteArray := prog_1_method_54_code
def yX5_isSafe : MethodName := ⟨RX5, "isSafe", "(IIII)Z"⟩
abbrev cX5_isAsSeen : ByteArray := prog_1_method_55_code
def yX5_isAsSeen : MethodName := ⟨RX5, "isAsSeen", "(IIII)Z"⟩
abbrev cX5_fraction : ByteArray := prog_1_method_56_code
def yX5_fraction : MethodName := ⟨RX5, "fraction", "(III)J"⟩
abbrev cX5_greatestDivisor : ByteArray := prog_1_method_57_code
def yX5_greatestDivisor : MethodName := ⟨RX5, "greatestDivisor", "(II)I"⟩
def RX6 : String := "FatLeanModel"
def TX6 : u_T := fun k => match k with
  | 0 => ("FatLeanModel", "state", "[I", true)
  | 1 => ("FatLeanModel", "landMany", "I", false)
  | 2 => ("FatLeanModel", "readings", "[I", true)
  | 3 => ("FatLeanModel", "readingMany", "I", false)
  | 4 => ("FatLeanModel", "readPage", "[I", true)
  | 5 => ("FatLeanModel", "readRows", "[I", true)
  | 6 => ("FatLeanModel", "readLands", "I", false)
  | 7 => ("FatLeanModel", "readMany", "I", false)
  | 8 => ("FatLeanModel", "toldOnce", "I", false)
  | 9 => ("FatLeanModel", "tape", "[I", true)
  | 10 => ("FatLeanModel", "taped", "I", false)
  | 11 => ("FatLeanModel", "fault", "I", false)
  | 12 => ("FatLeanModel", "broken", "I", false)
  | 13 => ("FatLeanModel", "brokenAt", "I", false)
  | 14 => ("FatLeanModel", "spot", "I", false)
  | 15 => ("FatLeanModel", "here", "I", false)
  | 16 => ("FatLeanModel", "token", "I", false)
  | 17 => ("FatLeanModel", "value", "I", false)
  | 18 => ("FatLeanModel", "cuts", "[I", true)
  | 19 => ("FatLeanModel", "letters", "[I", true)
  | 20 => ("FatLeanModel", "worths", "[J", true)
  | 21 => ("FatLeanModel", "seen", "[I", true)
  | 22 => ("FatLeanModel", "seenMany", "I", false)
  | 23 => ("FatLeanModel", "isKept", "[Z", true)
  | 24 => ("FatLeanModel", "lanes", "[I", true)
  | 25 => ("FatLeanModel", "lengths", "[I", true)
  | 26 => ("FatLeanModel", "cells", "[I", true)
  | _ => ("FatLeanModel", "torn", "I", false)
def tyX6 : Nat → FieldType := fun k => match k with
  | 0 => .array .int
  | 1 => .int
  | 2 => .array .int
  | 3 => .int
  | 4 => .array .int
  | 5 => .array .int
  | 6 => .int
  | 7 => .int
  | 8 => .int
  | 9 => .array .int
  | 10 => .int
  | 11 => .int
  | 12 => .int
  | 13 => .int
  | 14 => .int
  | 15 => .int
  | 16 => .int
  | 17 => .int
  | 18 => .array .int
  | 19 => .array .int
  | 20 => .array .long
  | 21 => .array .int
  | 22 => .int
  | 23 => .array .boolean
  | 24 => .array .int
  | 25 => .array .int
  | 26 => .array .int
  | _ => .int
theorem nmX6 : ∀ a, a < 28 → ∀ b, b < 28 → a ≠ b → (TX6 a).2.1 ≠ (TX6 b).2.1 := by decide +kernel
theorem tyX6_ok : ∀ k, k < 28 → parseFieldDescriptor (TX6 k).2.2.1 = some (tyX6 k) := by decide +kernel
abbrev cX6_init : ByteArray := prog_8_method_1_code
def yX6_init : MethodName := ⟨RX6, "<init>", "()V"⟩
abbrev cX6_in : ByteArray := prog_8_method_3_code
def yX6_in : MethodName := ⟨RX6, "in", "(JJJ)Z"⟩
abbrev cX6_feed : ByteArray := prog_8_method_4_code
def yX6_feed : MethodName := ⟨RX6, "feed", "(I)I"⟩
abbrev cX6_end : ByteArray := prog_8_method_5_code
def yX6_end : MethodName := ⟨RX6, "end", "(I)I"⟩
abbrev cX6_byteAt : ByteArray := prog_8_method_6_code
def yX6_byteAt : MethodName := ⟨RX6, "byteAt", "(I)I"⟩
abbrev cX6_fails : ByteArray := prog_8_method_7_code
def yX6_fails : MethodName := ⟨RX6, "fails", "(I)V"⟩
abbrev cX6_wordHere : ByteArray := prog_8_method_8_code
def yX6_wordHere : MethodName := ⟨RX6, "wordHere", "()I"⟩
abbrev cX6_step : ByteArray := prog_8_method_9_code
def yX6_step : MethodName := ⟨RX6, "step", "()V"⟩
abbrev cX6_number : ByteArray := prog_8_method_10_code
def yX6_number : MethodName := ⟨RX6, "number", "(II)I"⟩
abbrev cX6_readDream : ByteArray := prog_8_method_11_code
def yX6_readDream : MethodName := ⟨RX6, "readDream", "()V"⟩
abbrev cX6_readOnce : ByteArray := prog_8_method_12_code
def yX6_readOnce : MethodName := ⟨RX6, "readOnce", "(I)V"⟩
abbrev cX6_readLine : ByteArray := prog_8_method_13_code
def yX6_readLine : MethodName := ⟨RX6, "readLine", "()V"⟩
abbrev cX6_text : ByteArray := prog_8_method_14_code
def yX6_text : MethodName := ⟨RX6, "text", "()I"⟩
abbrev cX6_fault : ByteArray := prog_8_method_15_code
def yX6_fault : MethodName := ⟨RX6, "fault", "()I"⟩
abbrev cX6_isLand : ByteArray := prog_8_method_16_code
def yX6_isLand : MethodName := ⟨RX6, "isLand", "(I)Z"⟩
abbrev cX6_isReading : ByteArray := prog_8_method_17_code
def yX6_isReading : MethodName := ⟨RX6, "isReading", "(I)Z"⟩
abbrev cX6_isFat : ByteArray := prog_8_method_18_code
def yX6_isFat : MethodName := ⟨RX6, "isFat", "(I)Z"⟩
abbrev cX6_capOn : ByteArray := prog_8_method_19_code
def yX6_capOn : MethodName := ⟨RX6, "capOn", "(I)I"⟩
abbrev cX6_rule : ByteArray := prog_8_method_20_code
def yX6_rule : MethodName := ⟨RX6, "rule", "(I)I"⟩
abbrev cX6_land : ByteArray := prog_8_method_21_code
def yX6_land : MethodName := ⟨RX6, "land", "(II)I"⟩
abbrev cX6_canBe : ByteArray := prog_8_method_22_code
def yX6_canBe : MethodName := ⟨RX6, "canBe", "(I)Z"⟩
abbrev cX6_reading : ByteArray := prog_8_method_23_code
def yX6_reading : MethodName := ⟨RX6, "reading", "(II)I"⟩
abbrev cX6_bearsOn : ByteArray := prog_8_method_24_code
def yX6_bearsOn : MethodName := ⟨RX6, "bearsOn", "(II)I"⟩
abbrev cX6_bears : ByteArray := prog_8_method_25_code
def yX6_bears : MethodName := ⟨RX6, "bears", "(I)I"⟩
abbrev cX6_sets : ByteArray := prog_8_method_26_code
def yX6_sets : MethodName := ⟨RX6, "sets", "(ZII)I"⟩
abbrev cX6_till : ByteArray := prog_8_method_27_code
def yX6_till : MethodName := ⟨RX6, "till", "(III)I"⟩
abbrev cX6_weigh : ByteArray := prog_8_method_28_code
def yX6_weigh : MethodName := ⟨RX6, "weigh", "(II)I"⟩
abbrev cX6_need : ByteArray := prog_8_method_29_code
def yX6_need : MethodName := ⟨RX6, "need", "(I)I"⟩
abbrev cX6_hunger : ByteArray := prog_8_method_30_code
def yX6_hunger : MethodName := ⟨RX6, "hunger", "(I)I"⟩
abbrev cX6_cap : ByteArray := prog_8_method_31_code
def yX6_cap : MethodName := ⟨RX6, "cap", "(I)I"⟩
abbrev cX6_rot : ByteArray := prog_8_method_32_code
def yX6_rot : MethodName := ⟨RX6, "rot", "(I)I"⟩
abbrev cX6_fill : ByteArray := prog_8_method_33_code
def yX6_fill : MethodName := ⟨RX6, "fill", "(I)I"⟩
abbrev cX6_price : ByteArray := prog_8_method_34_code
def yX6_price : MethodName := ⟨RX6, "price", "(II)I"⟩
abbrev cX6_steward : ByteArray := prog_8_method_35_code
def yX6_steward : MethodName := ⟨RX6, "steward", "(II)I"⟩
abbrev cX6_leftOn : ByteArray := prog_8_method_36_code
def yX6_leftOn : MethodName := ⟨RX6, "leftOn", "(II)I"⟩
abbrev cX6_keepsOn : ByteArray := prog_8_method_37_code
def yX6_keepsOn : MethodName := ⟨RX6, "keepsOn", "(II)I"⟩
abbrev cX6_rotted : ByteArray := prog_8_method_38_code
def yX6_rotted : MethodName := ⟨RX6, "rotted", "(II)I"⟩
abbrev cX6_goesOn : ByteArray := prog_8_method_39_code
def yX6_goesOn : MethodName := ⟨RX6, "goesOn", "(III)I"⟩
abbrev cX6_goes : ByteArray := prog_8_method_40_code
def yX6_goes : MethodName := ⟨RX6, "goes", "(II)I"⟩
abbrev cX6_go : ByteArray := prog_8_method_41_code
def yX6_go : MethodName := ⟨RX6, "go", "(II)I"⟩
abbrev cX6_year : ByteArray := prog_8_method_42_code
def yX6_year : MethodName := ⟨RX6, "year", "(I)I"⟩
abbrev cX6_keeps : ByteArray := prog_8_method_43_code
def yX6_keeps : MethodName := ⟨RX6, "keeps", "(I)I"⟩
abbrev cX6_copies : ByteArray := prog_8_method_44_code
def yX6_copies : MethodName := ⟨RX6, "copies", "(II)V"⟩
abbrev cX6_triesOne : ByteArray := prog_8_method_45_code
def yX6_triesOne : MethodName := ⟨RX6, "triesOne", "(I)I"⟩
abbrev cX6_ahead : ByteArray := prog_8_method_46_code
def yX6_ahead : MethodName := ⟨RX6, "ahead", "(III)I"⟩
abbrev cX6_starvesIn : ByteArray := prog_8_method_47_code
def yX6_starvesIn : MethodName := ⟨RX6, "starvesIn", "(I)I"⟩
abbrev cX6_when : ByteArray := prog_8_method_48_code
def yX6_when : MethodName := ⟨RX6, "when", "(I)I"⟩
abbrev cX6_canNow : ByteArray := prog_8_method_49_code
def yX6_canNow : MethodName := ⟨RX6, "canNow", "()I"⟩
abbrev cX6_can : ByteArray := prog_8_method_50_code
def yX6_can : MethodName := ⟨RX6, "can", "()I"⟩
abbrev cX6_lowest : ByteArray := prog_8_method_51_code
def yX6_lowest : MethodName := ⟨RX6, "lowest", "(JJI)J"⟩
abbrev cX6_oddsOf : ByteArray := prog_8_method_52_code
def yX6_oddsOf : MethodName := ⟨RX6, "oddsOf", "(I)J"⟩
abbrev cX6_areSo : ByteArray := prog_8_method_53_code
def yX6_areSo : MethodName := ⟨RX6, "areSo", "(III)I"⟩
abbrev cX6_fat : ByteArray := prog_8_method_54_code
def yX6_fat : MethodName := ⟨RX6, "fat", "(II)J"⟩
abbrev cX6_at : ByteArray := prog_8_method_55_code
def yX6_at : MethodName := ⟨RX6, "at", "(III)I"⟩
abbrev cX6_byKept : ByteArray := prog_8_method_56_code
def yX6_byKept : MethodName := ⟨RX6, "byKept", "(IIIIII)J"⟩
abbrev cX6_mostKept : ByteArray := prog_8_method_57_code
def yX6_mostKept : MethodName := ⟨RX6, "mostKept", "(II)I"⟩
abbrev cX6_bestSo : ByteArray := prog_8_method_58_code
def yX6_bestSo : MethodName := ⟨RX6, "bestSo", "(IIIII)J"⟩
abbrev cX6_yearsLeft : ByteArray := prog_8_method_59_code
def yX6_yearsLeft : MethodName := ⟨RX6, "yearsLeft", "(I)I"⟩
abbrev cX6_layWorths : ByteArray := prog_8_method_60_code
def yX6_layWorths : MethodName := ⟨RX6, "layWorths", "(I)V"⟩
abbrev cX6_bestIn : ByteArray := prog_8_method_61_code
def yX6_bestIn : MethodName := ⟨RX6, "bestIn", "(II)J"⟩
abbrev cX6_best : ByteArray := prog_8_method_62_code
def yX6_best : MethodName := ⟨RX6, "best", "(II)J"⟩
abbrev cX6_choice : ByteArray := prog_8_method_63_code
def yX6_choice : MethodName := ⟨RX6, "choice", "(II)I"⟩
abbrev cX6_knowing : ByteArray := prog_8_method_64_code
def yX6_knowing : MethodName := ⟨RX6, "knowing", "(II)J"⟩
abbrev cX6_worth : ByteArray := prog_8_method_65_code
def yX6_worth : MethodName := ⟨RX6, "worth", "(III)J"⟩
abbrev cX6_isSafe : ByteArray := prog_8_method_66_code
def yX6_isSafe : MethodName := ⟨RX6, "isSafe", "()Z"⟩
abbrev cX6_safe : ByteArray := prog_8_method_67_code
def yX6_safe : MethodName := ⟨RX6, "safe", "(I)I"⟩
abbrev cX6_granary : ByteArray := prog_8_method_68_code
def yX6_granary : MethodName := ⟨RX6, "granary", "()I"⟩
abbrev cX6_least : ByteArray := prog_8_method_69_code
def yX6_least : MethodName := ⟨RX6, "least", "()I"⟩
abbrev cX6_see : ByteArray := prog_8_method_70_code
def yX6_see : MethodName := ⟨RX6, "see", "(II)I"⟩
abbrev cX6_forget : ByteArray := prog_8_method_71_code
def yX6_forget : MethodName := ⟨RX6, "forget", "(I)I"⟩
abbrev cX6_isAsSeen : ByteArray := prog_8_method_72_code
def yX6_isAsSeen : MethodName := ⟨RX6, "isAsSeen", "(IIII)Z"⟩
abbrev cX6_stewards : ByteArray := prog_8_method_73_code
def yX6_stewards : MethodName := ⟨RX6, "stewards", "(II)I"⟩
abbrev cX6_hoards : ByteArray := prog_8_method_74_code
def yX6_hoards : MethodName := ⟨RX6, "hoards", "(I)I"⟩
abbrev cX6_fits : ByteArray := prog_8_method_75_code
def yX6_fits : MethodName := ⟨RX6, "fits", "()I"⟩
abbrev cX6_drift : ByteArray := prog_8_method_76_code
def yX6_drift : MethodName := ⟨RX6, "drift", "(III)I"⟩
abbrev cX6_keep : ByteArray := prog_8_method_77_code
def yX6_keep : MethodName := ⟨RX6, "keep", "(I)I"⟩
abbrev cX6_back : ByteArray := prog_8_method_78_code
def yX6_back : MethodName := ⟨RX6, "back", "(I)I"⟩
abbrev cX6_sheet : ByteArray := prog_8_method_79_code
def yX6_sheet : MethodName := ⟨RX6, "sheet", "(III)I"⟩
abbrev cX6_lay : ByteArray := prog_8_method_80_code
def yX6_lay : MethodName := ⟨RX6, "lay", "(III)I"⟩
abbrev cX6_read : ByteArray := prog_8_method_81_code
def yX6_read : MethodName := ⟨RX6, "read", "(IIII)I"⟩
abbrev cX6_torn : ByteArray := prog_8_method_82_code
def yX6_torn : MethodName := ⟨RX6, "torn", "()I"⟩
abbrev cX6_bitsOf : ByteArray := prog_8_method_83_code
def yX6_bitsOf : MethodName := ⟨RX6, "bitsOf", "(I)I"⟩
abbrev cX6_count : ByteArray := prog_8_method_84_code
def yX6_count : MethodName := ⟨RX6, "count", "(I)I"⟩
def RJx145de : String := "java/io/Serializable"
def RJx9f9b0 : String := "java/lang/CharSequence"
def RJxb160c : String := "java/lang/Comparable"
def RJ6 : String := "java/lang/Integer"
abbrev cJ6_bitCount_0f7a4 : ByteArray := prog_9_method_49_code
def yJ6_bitCount_0f7a4 : MethodName := ⟨RJ6, "bitCount", "(I)I"⟩
def RJ9 : String := "java/lang/Math"
abbrev cJ9_abs_0f7a4 : ByteArray := prog_10_method_59_code
def yJ9_abs_0f7a4 : MethodName := ⟨RJ9, "abs", "(I)I"⟩
abbrev cJ9_max_7cf53 : ByteArray := prog_10_method_65_code
def yJ9_max_7cf53 : MethodName := ⟨RJ9, "max", "(II)I"⟩
abbrev cJ9_min_7cf53 : ByteArray := prog_10_method_69_code
def yJ9_min_7cf53 : MethodName := ⟨RJ9, "min", "(II)I"⟩
def RJ0 : String := "java/lang/String"
abbrev cJ0_length_8abf5 : ByteArray := prog_11_method_54_code
def yJ0_length_8abf5 : MethodName := ⟨RJ0, "length", "()I"⟩
abbrev cJ0_charAt_5068e : ByteArray := prog_11_method_56_code
def yJ0_charAt_5068e : MethodName := ⟨RJ0, "charAt", "(I)C"⟩
abbrev cJ0_coder_7d493 : ByteArray := prog_11_method_152_code
def yJ0_coder_7d493 : MethodName := ⟨RJ0, "coder", "()B"⟩
abbrev cJ0_isLatin1_aae02 : ByteArray := prog_11_method_154_code
def yJ0_isLatin1_aae02 : MethodName := ⟨RJ0, "isLatin1", "()Z"⟩
abbrev cJ0_checkIndex_df160 : ByteArray := prog_11_method_155_code
def yJ0_checkIndex_df160 : MethodName := ⟨RJ0, "checkIndex", "(II)V"⟩
def RJ1 : String := "java/lang/StringLatin1"
abbrev cJ1_charAt_3b067 : ByteArray := prog_12_method_2_code
def yJ1_charAt_3b067 : MethodName := ⟨RJ1, "charAt", "([BI)C"⟩
def RJ2 : String := "java/lang/StringUTF16"
abbrev cJ2_getChar_3b067 : ByteArray := prog_13_method_5_code
def yJ2_getChar_3b067 : MethodName := ⟨RJ2, "getChar", "([BI)C"⟩
abbrev cJ2_length_9d52b : ByteArray := prog_13_method_6_code
def yJ2_length_9d52b : MethodName := ⟨RJ2, "length", "([B)I"⟩
abbrev cJ2_charAt_3b067 : ByteArray := prog_13_method_83_code
def yJ2_charAt_3b067 : MethodName := ⟨RJ2, "charAt", "([BI)C"⟩
abbrev cJ2_checkIndex_2214a : ByteArray := prog_13_method_91_code
def yJ2_checkIndex_2214a : MethodName := ⟨RJ2, "checkIndex", "(I[B)V"⟩
def RJ10 : String := "java/lang/System"
def RJxfd54e : String := "java/lang/constant/Constable"
def RJx3cf43 : String := "java/lang/constant/ConstantDesc"
def RJ7 : String := "java/util/Arrays"
abbrev cJ7_fill_53178 : ByteArray := prog_15_method_103_code
def yJ7_fill_53178 : MethodName := ⟨RJ7, "fill", "([II)V"⟩
def RJ3 : String := "jdk/internal/util/Preconditions"
abbrev cJ3_checkIndex_8e157 : ByteArray := prog_16_method_11_code
def yJ3_checkIndex_8e157 : MethodName := ⟨RJ3, "checkIndex", "(IILjava/util/function/BiFunction;)I"⟩
def RL : String := "FatLeanLaw"
abbrev cL_law : ByteArray := code
def yL_law : MethodName := ⟨RL, "law", "([I)Z"⟩
abbrev vwCl : List vw_C := [(RX0, TX0, 3), (RX1, TX1, 4), (RX2, TX2, 19), (RX3, TX3, 10), (RX4, TX4, 3), (RX5, TX5, 9), (RX6, TX6, 28)]
end
section
theorem dX0_init_0 : decode cX0_init 0 = .ok (.aload_n 0, 1) := by decide +kernel
theorem dX0_init_1 : decode cX0_init 1 = .ok (.invokespecial 3, 3) := by decide +kernel
theorem dX0_init_4 : decode cX0_init 4 = .ok (.aload_n 0, 1) := by decide +kernel
theorem dX0_init_5 : decode cX0_init 5 = .ok (.bipush 6, 2) := by decide +kernel
theorem dX0_init_7 : decode cX0_init 7 = .ok (.newarray .int, 2) := by decide +kernel
theorem dX0_init_9 : decode cX0_init 9 = .ok (.putfield 9, 3) := by decide +kernel
theorem dX0_init_12 : decode cX0_init 12 = .ok (.aload_n 0, 1) := by decide +kernel
theorem dX0_init_13 : decode cX0_init 13 = .ok (.bipush 6, 2) := by decide +kernel
theorem dX0_init_15 : decode cX0_init 15 = .ok (.newarray .int, 2) := by decide +kernel
theorem dX0_init_17 : decode cX0_init 17 = .ok (.putfield 15, 3) := by decide +kernel
theorem dX0_init_20 : decode cX0_init 20 = .ok (.return_, 1) := by decide +kernel
theorem dX0_note_0 : decode cX0_note 0 = .ok (.aload_n 0, 1) := by decide +kernel
theorem dX0_note_1 : decode cX0_note 1 = .ok (.getfield 18, 3) := by decide +kernel
theorem dX0_note_4 : decode cX0_note 4 = .ok (.bipush 6, 2) := by decide +kernel
theorem dX0_note_6 : decode cX0_note 6 = .ok (.if_icmp .lt 5, 3) := by decide +kernel
theorem dX0_note_9 : decode cX0_note 9 = .ok (.iconst 0, 1) := by decide +kernel
theorem dX0_note_10 : decode cX0_note 10 = .ok (.ireturn, 1) := by decide +kernel
theorem dX0_note_11 : decode cX0_note 11 = .ok (.aload_n 0, 1) := by decide +kernel
theorem dX0_note_12 : decode cX0_note 12 = .ok (.getfield 9, 3) := by decide +kernel
theorem dX0_note_15 : decode cX0_note 15 = .ok (.aload_n 0, 1) := by decide +kernel
theorem dX0_note_16 : decode cX0_note 16 = .ok (.getfield 18, 3) := by decide +kernel
theorem dX0_note_19 : decode cX0_note 19 = .ok (.iload_n 1, 1) := by decide +kernel
theorem dX0_note_20 : decode cX0_note 20 = .ok (.iastore, 1) := by decide +kernel
theorem dX0_note_21 : decode cX0_note 21 = .ok (.aload_n 0, 1) := by decide +kernel
theorem dX0_note_22 : decode cX0_note 22 = .ok (.getfield 15, 3) := by decide +kernel
theorem dX0_note_25 : decode cX0_note 25 = .ok (.aload_n 0, 1) := by decide +kernel
theorem dX0_note_26 : decode cX0_note 26 = .ok (.getfield 18, 3) := by decide +kernel
theorem dX0_note_29 : decode cX0_note 29 = .ok (.iload_n 2, 1) := by decide +kernel
theorem dX0_note_30 : decode cX0_note 30 = .ok (.iastore, 1) := by decide +kernel
theorem dX0_note_31 : decode cX0_note 31 = .ok (.aload_n 0, 1) := by decide +kernel
theorem dX0_note_32 : decode cX0_note 32 = .ok (.dup, 1) := by decide +kernel
theorem dX0_note_33 : decode cX0_note 33 = .ok (.getfield 18, 3) := by decide +kernel
theorem dX0_note_36 : decode cX0_note 36 = .ok (.iconst 1, 1) := by decide +kernel
theorem dX0_note_37 : decode cX0_note 37 = .ok (.iadd, 1) := by decide +kernel
theorem dX0_note_38 : decode cX0_note 38 = .ok (.putfield 18, 3) := by decide +kernel
theorem dX0_note_41 : decode cX0_note 41 = .ok (.iconst 1, 1) := by decide +kernel
theorem dX0_note_42 : decode cX0_note 42 = .ok (.ireturn, 1) := by decide +kernel
theorem dX0_agree_0 : decode cX0_agree 0 = .ok (.iconst 0, 1) := by decide +kernel
theorem dX0_agree_1 : decode cX0_agree 1 = .ok (.istore_n 3, 1) := by decide +kernel
theorem dX0_agree_2 : decode cX0_agree 2 = .ok (.iload_n 3, 1) := by decide +kernel
theorem dX0_agree_3 : decode cX0_agree 3 = .ok (.aload_n 0, 1) := by decide +kernel
theorem dX0_agree_4 : decode cX0_agree 4 = .ok (.getfield 18, 3) := by decide +kernel
theorem dX0_agree_7 : decode cX0_agree 7 = .ok (.if_icmp .ge 31, 3) := by decide +kernel
theorem dX0_agree_10 : decode cX0_agree 10 = .ok (.aload_n 0, 1) := by decide +kernel
theorem dX0_agree_11 : decode cX0_agree 11 = .ok (.getfield 9, 3) := by decide +kernel
theorem dX0_agree_14 : decode cX0_agree 14 = .ok (.iload_n 3, 1) := by decide +kernel
theorem dX0_agree_15 : decode cX0_agree 15 = .ok (.iaload, 1) := by decide +kernel
theorem dX0_agree_16 : decode cX0_agree 16 = .ok (.iload_n 1, 1) := by decide +kernel
theorem dX0_agree_17 : decode cX0_agree 17 = .ok (.if_icmp .ne 15, 3) := by decide +kernel
theorem dX0_agree_20 : decode cX0_agree 20 = .ok (.aload_n 0, 1) := by decide +kernel
theorem dX0_agree_21 : decode cX0_agree 21 = .ok (.getfield 15, 3) := by decide +kernel
theorem dX0_agree_24 : decode cX0_agree 24 = .ok (.iload_n 3, 1) := by decide +kernel
theorem dX0_agree_25 : decode cX0_agree 25 = .ok (.iaload, 1) := by decide +kernel
theorem dX0_agree_26 : decode cX0_agree 26 = .ok (.iload_n 2, 1) := by decide +kernel
theorem dX0_agree_27 : decode cX0_agree 27 = .ok (.if_icmp .eq 5, 3) := by decide +kernel
theorem dX0_agree_30 : decode cX0_agree 30 = .ok (.iconst 0, 1) := by decide +kernel
theorem dX0_agree_31 : decode cX0_agree 31 = .ok (.ireturn, 1) := by decide +kernel
theorem dX0_agree_32 : decode cX0_agree 32 = .ok (.iinc 3 1, 3) := by decide +kernel
theorem dX0_agree_35 : decode cX0_agree 35 = .ok (.goto (-33), 3) := by decide +kernel
theorem dX0_agree_38 : decode cX0_agree 38 = .ok (.iconst 1, 1) := by decide +kernel
theorem dX0_agree_39 : decode cX0_agree 39 = .ok (.ireturn, 1) := by decide +kernel
theorem dX1_init_0 : decode cX1_init 0 = .ok (.aload_n 0, 1) := by decide +kernel
theorem dX1_init_1 : decode cX1_init 1 = .ok (.invokespecial 3, 3) := by decide +kernel
theorem dX1_init_4 : decode cX1_init 4 = .ok (.aload_n 0, 1) := by decide +kernel
theorem dX1_init_5 : decode cX1_init 5 = .ok (.bipush 6, 2) := by decide +kernel
theorem dX1_init_7 : decode cX1_init 7 = .ok (.bipush 41, 2) := by decide +kernel
theorem dX1_init_9 : decode cX1_init 9 = .ok (.multianewarray 9 2, 4) := by decide +kernel
theorem dX1_init_13 : decode cX1_init 13 = .ok (.putfield 11, 3) := by decide +kernel
theorem dX1_init_16 : decode cX1_init 16 = .ok (.aload_n 0, 1) := by decide +kernel
theorem dX1_init_17 : decode cX1_init 17 = .ok (.bipush 41, 2) := by decide +kernel
theorem dX1_init_19 : decode cX1_init 19 = .ok (.newarray .int, 2) := by decide +kernel
theorem dX1_init_21 : decode cX1_init 21 = .ok (.putfield 16, 3) := by decide +kernel
theorem dX1_init_24 : decode cX1_init 24 = .ok (.return_, 1) := by decide +kernel
theorem dX1_greatest_0 : decode cX1_greatest 0 = .ok (.aload_n 0, 1) := by decide +kernel
theorem dX1_greatest_1 : decode cX1_greatest 1 = .ok (.aload_n 1, 1) := by decide +kernel
theorem dX1_greatest_2 : decode cX1_greatest 2 = .ok (.iload_n 2, 1) := by decide +kernel
theorem dX1_greatest_3 : decode cX1_greatest 3 = .ok (.invokevirtual 20, 3) := by decide +kernel
theorem dX1_greatest_6 : decode cX1_greatest 6 = .ok (.aload_n 0, 1) := by decide +kernel
theorem dX1_greatest_7 : decode cX1_greatest 7 = .ok (.iconst 0, 1) := by decide +kernel
theorem dX1_greatest_8 : decode cX1_greatest 8 = .ok (.iload_n 3, 1) := by decide +kernel
theorem dX1_greatest_9 : decode cX1_greatest 9 = .ok (.invokestatic 24, 3) := by decide +kernel
theorem dX1_greatest_12 : decode cX1_greatest 12 = .ok (.aload_n 0, 1) := by decide +kernel
theorem dX1_greatest_13 : decode cX1_greatest 13 = .ok (.getfield 11, 3) := by decide +kernel
theorem dX1_greatest_16 : decode cX1_greatest 16 = .ok (.iconst 0, 1) := by decide +kernel
theorem dX1_greatest_17 : decode cX1_greatest 17 = .ok (.aaload, 1) := by decide +kernel
theorem dX1_greatest_18 : decode cX1_greatest 18 = .ok (.aload_n 1, 1) := by decide +kernel
theorem dX1_greatest_19 : decode cX1_greatest 19 = .ok (.getfield 28, 3) := by decide +kernel
theorem dX1_greatest_22 : decode cX1_greatest 22 = .ok (.iaload, 1) := by decide +kernel
theorem dX1_greatest_23 : decode cX1_greatest 23 = .ok (.ireturn, 1) := by decide +kernel
theorem dX1_leastChoice_0 : decode cX1_leastChoice 0 = .ok (.aload_n 0, 1) := by decide +kernel
theorem dX1_leastChoice_1 : decode cX1_leastChoice 1 = .ok (.aload_n 1, 1) := by decide +kernel
theorem dX1_leastChoice_2 : decode cX1_leastChoice 2 = .ok (.iload_n 2, 1) := by decide +kernel
theorem dX1_leastChoice_3 : decode cX1_leastChoice 3 = .ok (.invokevirtual 20, 3) := by decide +kernel
theorem dX1_leastChoice_6 : decode cX1_leastChoice 6 = .ok (.aload_n 0, 1) := by decide +kernel
theorem dX1_leastChoice_7 : decode cX1_leastChoice 7 = .ok (.iconst 1, 1) := by decide +kernel
theorem dX1_leastChoice_8 : decode cX1_leastChoice 8 = .ok (.iload_n 3, 1) := by decide +kernel
theorem dX1_leastChoice_9 : decode cX1_leastChoice 9 = .ok (.invokestatic 24, 3) := by decide +kernel
theorem dX1_leastChoice_12 : decode cX1_leastChoice 12 = .ok (.aload_n 0, 1) := by decide +kernel
theorem dX1_leastChoice_13 : decode cX1_leastChoice 13 = .ok (.iconst 1, 1) := by decide +kernel
theorem dX1_leastChoice_14 : decode cX1_leastChoice 14 = .ok (.aload_n 1, 1) := by decide +kernel
theorem dX1_leastChoice_15 : decode cX1_leastChoice 15 = .ok (.iload_n 3, 1) := by decide +kernel
theorem dX1_leastChoice_16 : decode cX1_leastChoice 16 = .ok (.invokevirtual 34, 3) := by decide +kernel
theorem dX1_leastChoice_19 : decode cX1_leastChoice 19 = .ok (.aload_n 1, 1) := by decide +kernel
theorem dX1_leastChoice_20 : decode cX1_leastChoice 20 = .ok (.iload 4, 2) := by decide +kernel
theorem dX1_leastChoice_22 : decode cX1_leastChoice 22 = .ok (.invokevirtual 38, 3) := by decide +kernel
theorem dX1_leastChoice_25 : decode cX1_leastChoice 25 = .ok (.imul, 1) := by decide +kernel
theorem dX1_leastChoice_26 : decode cX1_leastChoice 26 = .ok (.invokevirtual 41, 3) := by decide +kernel
theorem dX1_leastChoice_29 : decode cX1_leastChoice 29 = .ok (.aload_n 0, 1) := by decide +kernel
theorem dX1_leastChoice_30 : decode cX1_leastChoice 30 = .ok (.getfield 16, 3) := by decide +kernel
theorem dX1_leastChoice_33 : decode cX1_leastChoice 33 = .ok (.aload_n 1, 1) := by decide +kernel
theorem dX1_leastChoice_34 : decode cX1_leastChoice 34 = .ok (.getfield 45, 3) := by decide +kernel
theorem dX1_leastChoice_37 : decode cX1_leastChoice 37 = .ok (.aload_n 1, 1) := by decide +kernel
theorem dX1_leastChoice_38 : decode cX1_leastChoice 38 = .ok (.aload_n 1, 1) := by decide +kernel
theorem dX1_leastChoice_39 : decode cX1_leastChoice 39 = .ok (.iload 4, 2) := by decide +kernel
theorem dX1_leastChoice_41 : decode cX1_leastChoice 41 = .ok (.invokevirtual 48, 3) := by decide +kernel
theorem dX1_leastChoice_44 : decode cX1_leastChoice 44 = .ok (.invokevirtual 51, 3) := by decide +kernel
theorem dX1_leastChoice_47 : decode cX1_leastChoice 47 = .ok (.invokestatic 54, 3) := by decide +kernel
theorem dX1_leastChoice_50 : decode cX1_leastChoice 50 = .ok (.iaload, 1) := by decide +kernel
theorem dX1_leastChoice_51 : decode cX1_leastChoice 51 = .ok (.ireturn, 1) := by decide +kernel
theorem dX1_plan_0 : decode cX1_plan 0 = .ok (.aload_n 0, 1) := by decide +kernel
theorem dX1_plan_1 : decode cX1_plan 1 = .ok (.aload_n 1, 1) := by decide +kernel
theorem dX1_plan_2 : decode cX1_plan 2 = .ok (.putfield 60, 3) := by decide +kernel
theorem dX1_plan_5 : decode cX1_plan 5 = .ok (.aload_n 0, 1) := by decide +kernel
theorem dX1_plan_6 : decode cX1_plan 6 = .ok (.iload_n 2, 1) := by decide +kernel
theorem dX1_plan_7 : decode cX1_plan 7 = .ok (.bipush 8, 2) := by decide +kernel
theorem dX1_plan_9 : decode cX1_plan 9 = .ok (.aload_n 1, 1) := by decide +kernel
theorem dX1_plan_10 : decode cX1_plan 10 = .ok (.getfield 64, 3) := by decide +kernel
theorem dX1_plan_13 : decode cX1_plan 13 = .ok (.isub, 1) := by decide +kernel
theorem dX1_plan_14 : decode cX1_plan 14 = .ok (.invokestatic 54, 3) := by decide +kernel
theorem dX1_plan_17 : decode cX1_plan 17 = .ok (.putfield 67, 3) := by decide +kernel
theorem dX1_plan_20 : decode cX1_plan 20 = .ok (.return_, 1) := by decide +kernel
theorem dX1_sumFrom_0 : decode cX1_sumFrom 0 = .ok (.iload_n 1, 1) := by decide +kernel
theorem dX1_sumFrom_1 : decode cX1_sumFrom 1 = .ok (.iconst 5, 1) := by decide +kernel
theorem dX1_sumFrom_2 : decode cX1_sumFrom 2 = .ok (.if_icmp .le 4, 3) := by decide +kernel
theorem dX1_sumFrom_5 : decode cX1_sumFrom 5 = .ok (.return_, 1) := by decide +kernel
theorem dX1_sumFrom_6 : decode cX1_sumFrom 6 = .ok (.aload_n 0, 1) := by decide +kernel
theorem dX1_sumFrom_7 : decode cX1_sumFrom 7 = .ok (.getfield 11, 3) := by decide +kernel
theorem dX1_sumFrom_10 : decode cX1_sumFrom 10 = .ok (.iload_n 1, 1) := by decide +kernel
theorem dX1_sumFrom_11 : decode cX1_sumFrom 11 = .ok (.aaload, 1) := by decide +kernel
theorem dX1_sumFrom_12 : decode cX1_sumFrom 12 = .ok (.iconst 0, 1) := by decide +kernel
theorem dX1_sumFrom_13 : decode cX1_sumFrom 13 = .ok (.invokestatic 70, 3) := by decide +kernel
theorem dX1_sumFrom_16 : decode cX1_sumFrom 16 = .ok (.iload_n 1, 1) := by decide +kernel
theorem dX1_sumFrom_17 : decode cX1_sumFrom 17 = .ok (.aload_n 0, 1) := by decide +kernel
theorem dX1_sumFrom_18 : decode cX1_sumFrom 18 = .ok (.getfield 67, 3) := by decide +kernel
theorem dX1_sumFrom_21 : decode cX1_sumFrom 21 = .ok (.if_icmp .lt 4, 3) := by decide +kernel
theorem dX1_sumFrom_24 : decode cX1_sumFrom 24 = .ok (.return_, 1) := by decide +kernel
theorem dX1_sumFrom_25 : decode cX1_sumFrom 25 = .ok (.iconst 0, 1) := by decide +kernel
theorem dX1_sumFrom_26 : decode cX1_sumFrom 26 = .ok (.istore_n 3, 1) := by decide +kernel
theorem dX1_sumFrom_27 : decode cX1_sumFrom 27 = .ok (.iload_n 3, 1) := by decide +kernel
theorem dX1_sumFrom_28 : decode cX1_sumFrom 28 = .ok (.iconst 1, 1) := by decide +kernel
theorem dX1_sumFrom_29 : decode cX1_sumFrom 29 = .ok (.if_icmp .gt 51, 3) := by decide +kernel
theorem dX1_sumFrom_32 : decode cX1_sumFrom 32 = .ok (.aload_n 0, 1) := by decide +kernel
theorem dX1_sumFrom_33 : decode cX1_sumFrom 33 = .ok (.getfield 60, 3) := by decide +kernel
theorem dX1_sumFrom_36 : decode cX1_sumFrom 36 = .ok (.iload_n 2, 1) := by decide +kernel
theorem dX1_sumFrom_37 : decode cX1_sumFrom 37 = .ok (.aload_n 0, 1) := by decide +kernel
theorem dX1_sumFrom_38 : decode cX1_sumFrom 38 = .ok (.getfield 60, 3) := by decide +kernel
theorem dX1_sumFrom_41 : decode cX1_sumFrom 41 = .ok (.getfield 64, 3) := by decide +kernel
theorem dX1_sumFrom_44 : decode cX1_sumFrom 44 = .ok (.iload_n 1, 1) := by decide +kernel
theorem dX1_sumFrom_45 : decode cX1_sumFrom 45 = .ok (.iadd, 1) := by decide +kernel
theorem dX1_sumFrom_46 : decode cX1_sumFrom 46 = .ok (.iload_n 3, 1) := by decide +kernel
theorem dX1_sumFrom_47 : decode cX1_sumFrom 47 = .ok (.invokevirtual 76, 3) := by decide +kernel
theorem dX1_sumFrom_50 : decode cX1_sumFrom 50 = .ok (.istore 4, 2) := by decide +kernel
theorem dX1_sumFrom_52 : decode cX1_sumFrom 52 = .ok (.iload 4, 2) := by decide +kernel
theorem dX1_sumFrom_54 : decode cX1_sumFrom 54 = .ok (.ifCond .eq 20, 3) := by decide +kernel
theorem dX1_sumFrom_57 : decode cX1_sumFrom 57 = .ok (.aload_n 0, 1) := by decide +kernel
theorem dX1_sumFrom_58 : decode cX1_sumFrom 58 = .ok (.iload_n 1, 1) := by decide +kernel
theorem dX1_sumFrom_59 : decode cX1_sumFrom 59 = .ok (.iconst 1, 1) := by decide +kernel
theorem dX1_sumFrom_60 : decode cX1_sumFrom 60 = .ok (.iadd, 1) := by decide +kernel
theorem dX1_sumFrom_61 : decode cX1_sumFrom 61 = .ok (.iload 4, 2) := by decide +kernel
theorem dX1_sumFrom_63 : decode cX1_sumFrom 63 = .ok (.invokestatic 24, 3) := by decide +kernel
theorem dX1_sumFrom_66 : decode cX1_sumFrom 66 = .ok (.aload_n 0, 1) := by decide +kernel
theorem dX1_sumFrom_67 : decode cX1_sumFrom 67 = .ok (.iload_n 1, 1) := by decide +kernel
theorem dX1_sumFrom_68 : decode cX1_sumFrom 68 = .ok (.iload 4, 2) := by decide +kernel
theorem dX1_sumFrom_70 : decode cX1_sumFrom 70 = .ok (.iload_n 3, 1) := by decide +kernel
theorem dX1_sumFrom_71 : decode cX1_sumFrom 71 = .ok (.invokevirtual 80, 3) := by decide +kernel
theorem dX1_sumFrom_74 : decode cX1_sumFrom 74 = .ok (.iinc 3 1, 3) := by decide +kernel
theorem dX1_sumFrom_77 : decode cX1_sumFrom 77 = .ok (.goto (-50), 3) := by decide +kernel
theorem dX1_sumFrom_80 : decode cX1_sumFrom 80 = .ok (.return_, 1) := by decide +kernel
theorem dX1_addYear_0 : decode cX1_addYear 0 = .ok (.aload_n 0, 1) := by decide +kernel
theorem dX1_addYear_1 : decode cX1_addYear 1 = .ok (.getfield 60, 3) := by decide +kernel
theorem dX1_addYear_4 : decode cX1_addYear 4 = .ok (.iload_n 2, 1) := by decide +kernel
theorem dX1_addYear_5 : decode cX1_addYear 5 = .ok (.invokevirtual 34, 3) := by decide +kernel
theorem dX1_addYear_8 : decode cX1_addYear 8 = .ok (.istore 4, 2) := by decide +kernel
theorem dX1_addYear_10 : decode cX1_addYear 10 = .ok (.iload 4, 2) := by decide +kernel
theorem dX1_addYear_12 : decode cX1_addYear 12 = .ok (.aload_n 0, 1) := by decide +kernel
theorem dX1_addYear_13 : decode cX1_addYear 13 = .ok (.getfield 60, 3) := by decide +kernel
theorem dX1_addYear_16 : decode cX1_addYear 16 = .ok (.iload_n 3, 1) := by decide +kernel
theorem dX1_addYear_17 : decode cX1_addYear 17 = .ok (.invokevirtual 38, 3) := by decide +kernel
theorem dX1_addYear_20 : decode cX1_addYear 20 = .ok (.imul, 1) := by decide +kernel
theorem dX1_addYear_21 : decode cX1_addYear 21 = .ok (.istore 5, 2) := by decide +kernel
theorem dX1_addYear_23 : decode cX1_addYear 23 = .ok (.iload 4, 2) := by decide +kernel
theorem dX1_addYear_25 : decode cX1_addYear 25 = .ok (.aload_n 0, 1) := by decide +kernel
theorem dX1_addYear_26 : decode cX1_addYear 26 = .ok (.getfield 60, 3) := by decide +kernel
theorem dX1_addYear_29 : decode cX1_addYear 29 = .ok (.getfield 84, 3) := by decide +kernel
theorem dX1_addYear_32 : decode cX1_addYear 32 = .ok (.imul, 1) := by decide +kernel
theorem dX1_addYear_33 : decode cX1_addYear 33 = .ok (.istore 6, 2) := by decide +kernel
theorem dX1_addYear_35 : decode cX1_addYear 35 = .ok (.aload_n 0, 1) := by decide +kernel
theorem dX1_addYear_36 : decode cX1_addYear 36 = .ok (.getfield 60, 3) := by decide +kernel
theorem dX1_addYear_39 : decode cX1_addYear 39 = .ok (.iload_n 3, 1) := by decide +kernel
theorem dX1_addYear_40 : decode cX1_addYear 40 = .ok (.invokevirtual 87, 3) := by decide +kernel
theorem dX1_addYear_43 : decode cX1_addYear 43 = .ok (.istore 7, 2) := by decide +kernel
theorem dX1_addYear_45 : decode cX1_addYear 45 = .ok (.aload_n 0, 1) := by decide +kernel
theorem dX1_addYear_46 : decode cX1_addYear 46 = .ok (.iload_n 1, 1) := by decide +kernel
theorem dX1_addYear_47 : decode cX1_addYear 47 = .ok (.iconst 1, 1) := by decide +kernel
theorem dX1_addYear_48 : decode cX1_addYear 48 = .ok (.iadd, 1) := by decide +kernel
theorem dX1_addYear_49 : decode cX1_addYear 49 = .ok (.iload 5, 2) := by decide +kernel
theorem dX1_addYear_51 : decode cX1_addYear 51 = .ok (.invokevirtual 41, 3) := by decide +kernel
theorem dX1_addYear_54 : decode cX1_addYear 54 = .ok (.iconst 0, 1) := by decide +kernel
theorem dX1_addYear_55 : decode cX1_addYear 55 = .ok (.istore 8, 2) := by decide +kernel
theorem dX1_addYear_57 : decode cX1_addYear 57 = .ok (.iload 8, 2) := by decide +kernel
theorem dX1_addYear_59 : decode cX1_addYear 59 = .ok (.aload_n 0, 1) := by decide +kernel
theorem dX1_addYear_60 : decode cX1_addYear 60 = .ok (.getfield 60, 3) := by decide +kernel
theorem dX1_addYear_63 : decode cX1_addYear 63 = .ok (.getfield 45, 3) := by decide +kernel
theorem dX1_addYear_66 : decode cX1_addYear 66 = .ok (.if_icmp .gt 91, 3) := by decide +kernel
theorem dX1_addYear_69 : decode cX1_addYear 69 = .ok (.aload_n 0, 1) := by decide +kernel
theorem dX1_addYear_70 : decode cX1_addYear 70 = .ok (.getfield 60, 3) := by decide +kernel
theorem dX1_addYear_73 : decode cX1_addYear 73 = .ok (.iload 8, 2) := by decide +kernel
theorem dX1_addYear_75 : decode cX1_addYear 75 = .ok (.iload 7, 2) := by decide +kernel
theorem dX1_addYear_77 : decode cX1_addYear 77 = .ok (.iadd, 1) := by decide +kernel
theorem dX1_addYear_78 : decode cX1_addYear 78 = .ok (.invokevirtual 51, 3) := by decide +kernel
theorem dX1_addYear_81 : decode cX1_addYear 81 = .ok (.istore 9, 2) := by decide +kernel
theorem dX1_addYear_83 : decode cX1_addYear 83 = .ok (.aload_n 0, 1) := by decide +kernel
theorem dX1_addYear_84 : decode cX1_addYear 84 = .ok (.getfield 16, 3) := by decide +kernel
theorem dX1_addYear_87 : decode cX1_addYear 87 = .ok (.aload_n 0, 1) := by decide +kernel
theorem dX1_addYear_88 : decode cX1_addYear 88 = .ok (.getfield 60, 3) := by decide +kernel
theorem dX1_addYear_91 : decode cX1_addYear 91 = .ok (.getfield 45, 3) := by decide +kernel
theorem dX1_addYear_94 : decode cX1_addYear 94 = .ok (.iload 9, 2) := by decide +kernel
theorem dX1_addYear_96 : decode cX1_addYear 96 = .ok (.invokestatic 54, 3) := by decide +kernel
theorem dX1_addYear_99 : decode cX1_addYear 99 = .ok (.iaload, 1) := by decide +kernel
theorem dX1_addYear_100 : decode cX1_addYear 100 = .ok (.istore 10, 2) := by decide +kernel
theorem dX1_addYear_102 : decode cX1_addYear 102 = .ok (.iload 5, 2) := by decide +kernel
theorem dX1_addYear_104 : decode cX1_addYear 104 = .ok (.iload 9, 2) := by decide +kernel
theorem dX1_addYear_106 : decode cX1_addYear 106 = .ok (.imul, 1) := by decide +kernel
theorem dX1_addYear_107 : decode cX1_addYear 107 = .ok (.iload 6, 2) := by decide +kernel
theorem dX1_addYear_109 : decode cX1_addYear 109 = .ok (.aload_n 0, 1) := by decide +kernel
theorem dX1_addYear_110 : decode cX1_addYear 110 = .ok (.getfield 60, 3) := by decide +kernel
theorem dX1_addYear_113 : decode cX1_addYear 113 = .ok (.iload 8, 2) := by decide +kernel
theorem dX1_addYear_115 : decode cX1_addYear 115 = .ok (.iload 7, 2) := by decide +kernel
theorem dX1_addYear_117 : decode cX1_addYear 117 = .ok (.iadd, 1) := by decide +kernel
theorem dX1_addYear_118 : decode cX1_addYear 118 = .ok (.invokevirtual 90, 3) := by decide +kernel
theorem dX1_addYear_121 : decode cX1_addYear 121 = .ok (.imul, 1) := by decide +kernel
theorem dX1_addYear_122 : decode cX1_addYear 122 = .ok (.isub, 1) := by decide +kernel
theorem dX1_addYear_123 : decode cX1_addYear 123 = .ok (.istore 11, 2) := by decide +kernel
theorem dX1_addYear_125 : decode cX1_addYear 125 = .ok (.aload_n 0, 1) := by decide +kernel
theorem dX1_addYear_126 : decode cX1_addYear 126 = .ok (.getfield 11, 3) := by decide +kernel
theorem dX1_addYear_129 : decode cX1_addYear 129 = .ok (.iload_n 1, 1) := by decide +kernel
theorem dX1_addYear_130 : decode cX1_addYear 130 = .ok (.aaload, 1) := by decide +kernel
theorem dX1_addYear_131 : decode cX1_addYear 131 = .ok (.iload 8, 2) := by decide +kernel
theorem dX1_addYear_133 : decode cX1_addYear 133 = .ok (.dup2, 1) := by decide +kernel
theorem dX1_addYear_134 : decode cX1_addYear 134 = .ok (.iaload, 1) := by decide +kernel
theorem dX1_addYear_135 : decode cX1_addYear 135 = .ok (.iload 11, 2) := by decide +kernel
theorem dX1_addYear_137 : decode cX1_addYear 137 = .ok (.aload_n 0, 1) := by decide +kernel
theorem dX1_addYear_138 : decode cX1_addYear 138 = .ok (.iload_n 1, 1) := by decide +kernel
theorem dX1_addYear_139 : decode cX1_addYear 139 = .ok (.iconst 1, 1) := by decide +kernel
theorem dX1_addYear_140 : decode cX1_addYear 140 = .ok (.iadd, 1) := by decide +kernel
theorem dX1_addYear_141 : decode cX1_addYear 141 = .ok (.iload 5, 2) := by decide +kernel
theorem dX1_addYear_143 : decode cX1_addYear 143 = .ok (.iload 10, 2) := by decide +kernel
theorem dX1_addYear_145 : decode cX1_addYear 145 = .ok (.invokevirtual 93, 3) := by decide +kernel
theorem dX1_addYear_148 : decode cX1_addYear 148 = .ok (.iadd, 1) := by decide +kernel
theorem dX1_addYear_149 : decode cX1_addYear 149 = .ok (.iadd, 1) := by decide +kernel
theorem dX1_addYear_150 : decode cX1_addYear 150 = .ok (.iastore, 1) := by decide +kernel
theorem dX1_addYear_151 : decode cX1_addYear 151 = .ok (.iinc 8 1, 3) := by decide +kernel
theorem dX1_addYear_154 : decode cX1_addYear 154 = .ok (.goto (-97), 3) := by decide +kernel
theorem dX1_addYear_157 : decode cX1_addYear 157 = .ok (.return_, 1) := by decide +kernel
theorem dX1_choose_0 : decode cX1_choose 0 = .ok (.iconst 0, 1) := by decide +kernel
theorem dX1_choose_1 : decode cX1_choose 1 = .ok (.istore_n 3, 1) := by decide +kernel
theorem dX1_choose_2 : decode cX1_choose 2 = .ok (.aload_n 0, 1) := by decide +kernel
theorem dX1_choose_3 : decode cX1_choose 3 = .ok (.iload_n 1, 1) := by decide +kernel
theorem dX1_choose_4 : decode cX1_choose 4 = .ok (.iload_n 2, 1) := by decide +kernel
theorem dX1_choose_5 : decode cX1_choose 5 = .ok (.iconst 0, 1) := by decide +kernel
theorem dX1_choose_6 : decode cX1_choose 6 = .ok (.invokevirtual 93, 3) := by decide +kernel
theorem dX1_choose_9 : decode cX1_choose 9 = .ok (.istore 4, 2) := by decide +kernel
theorem dX1_choose_11 : decode cX1_choose 11 = .ok (.iconst 0, 1) := by decide +kernel
theorem dX1_choose_12 : decode cX1_choose 12 = .ok (.istore 5, 2) := by decide +kernel
theorem dX1_choose_14 : decode cX1_choose 14 = .ok (.iload 5, 2) := by decide +kernel
theorem dX1_choose_16 : decode cX1_choose 16 = .ok (.aload_n 0, 1) := by decide +kernel
theorem dX1_choose_17 : decode cX1_choose 17 = .ok (.getfield 60, 3) := by decide +kernel
theorem dX1_choose_20 : decode cX1_choose 20 = .ok (.getfield 45, 3) := by decide +kernel
theorem dX1_choose_23 : decode cX1_choose 23 = .ok (.if_icmp .gt 41, 3) := by decide +kernel
theorem dX1_choose_26 : decode cX1_choose 26 = .ok (.aload_n 0, 1) := by decide +kernel
theorem dX1_choose_27 : decode cX1_choose 27 = .ok (.iload_n 1, 1) := by decide +kernel
theorem dX1_choose_28 : decode cX1_choose 28 = .ok (.iload_n 2, 1) := by decide +kernel
theorem dX1_choose_29 : decode cX1_choose 29 = .ok (.iload 5, 2) := by decide +kernel
theorem dX1_choose_31 : decode cX1_choose 31 = .ok (.invokevirtual 93, 3) := by decide +kernel
theorem dX1_choose_34 : decode cX1_choose 34 = .ok (.istore 6, 2) := by decide +kernel
theorem dX1_choose_36 : decode cX1_choose 36 = .ok (.iload 6, 2) := by decide +kernel
theorem dX1_choose_38 : decode cX1_choose 38 = .ok (.iload 4, 2) := by decide +kernel
theorem dX1_choose_40 : decode cX1_choose 40 = .ok (.if_icmp .le 10, 3) := by decide +kernel
theorem dX1_choose_43 : decode cX1_choose 43 = .ok (.iload 5, 2) := by decide +kernel
theorem dX1_choose_45 : decode cX1_choose 45 = .ok (.istore_n 3, 1) := by decide +kernel
theorem dX1_choose_46 : decode cX1_choose 46 = .ok (.iload 6, 2) := by decide +kernel
theorem dX1_choose_48 : decode cX1_choose 48 = .ok (.istore 4, 2) := by decide +kernel
theorem dX1_choose_50 : decode cX1_choose 50 = .ok (.aload_n 0, 1) := by decide +kernel
theorem dX1_choose_51 : decode cX1_choose 51 = .ok (.getfield 16, 3) := by decide +kernel
theorem dX1_choose_54 : decode cX1_choose 54 = .ok (.iload 5, 2) := by decide +kernel
theorem dX1_choose_56 : decode cX1_choose 56 = .ok (.iload_n 3, 1) := by decide +kernel
theorem dX1_choose_57 : decode cX1_choose 57 = .ok (.iastore, 1) := by decide +kernel
theorem dX1_choose_58 : decode cX1_choose 58 = .ok (.iinc 5 1, 3) := by decide +kernel
theorem dX1_choose_61 : decode cX1_choose 61 = .ok (.goto (-47), 3) := by decide +kernel
theorem dX1_choose_64 : decode cX1_choose 64 = .ok (.return_, 1) := by decide +kernel
theorem dX1_gain_0 : decode cX1_gain 0 = .ok (.aload_n 0, 1) := by decide +kernel
theorem dX1_gain_1 : decode cX1_gain 1 = .ok (.getfield 11, 3) := by decide +kernel
theorem dX1_gain_4 : decode cX1_gain 4 = .ok (.iload_n 1, 1) := by decide +kernel
theorem dX1_gain_5 : decode cX1_gain 5 = .ok (.aaload, 1) := by decide +kernel
theorem dX1_gain_6 : decode cX1_gain 6 = .ok (.aload_n 0, 1) := by decide +kernel
theorem dX1_gain_7 : decode cX1_gain 7 = .ok (.getfield 60, 3) := by decide +kernel
theorem dX1_gain_10 : decode cX1_gain 10 = .ok (.iload_n 3, 1) := by decide +kernel
theorem dX1_gain_11 : decode cX1_gain 11 = .ok (.invokevirtual 96, 3) := by decide +kernel
theorem dX1_gain_14 : decode cX1_gain 14 = .ok (.iaload, 1) := by decide +kernel
theorem dX1_gain_15 : decode cX1_gain 15 = .ok (.iload_n 2, 1) := by decide +kernel
theorem dX1_gain_16 : decode cX1_gain 16 = .ok (.iload_n 3, 1) := by decide +kernel
theorem dX1_gain_17 : decode cX1_gain 17 = .ok (.imul, 1) := by decide +kernel
theorem dX1_gain_18 : decode cX1_gain 18 = .ok (.isub, 1) := by decide +kernel
theorem dX1_gain_19 : decode cX1_gain 19 = .ok (.ireturn, 1) := by decide +kernel
theorem dX2_init_0 : decode cX2_init 0 = .ok (.aload_n 0, 1) := by decide +kernel
theorem dX2_init_1 : decode cX2_init 1 = .ok (.invokespecial 3, 3) := by decide +kernel
theorem dX2_init_4 : decode cX2_init 4 = .ok (.aload_n 0, 1) := by decide +kernel
theorem dX2_init_5 : decode cX2_init 5 = .ok (.iconst 4, 1) := by decide +kernel
theorem dX2_init_6 : decode cX2_init 6 = .ok (.newarray .int, 2) := by decide +kernel
theorem dX2_init_8 : decode cX2_init 8 = .ok (.putfield 9, 3) := by decide +kernel
theorem dX2_init_11 : decode cX2_init 11 = .ok (.aload_n 0, 1) := by decide +kernel
theorem dX2_init_12 : decode cX2_init 12 = .ok (.iconst 4, 1) := by decide +kernel
theorem dX2_init_13 : decode cX2_init 13 = .ok (.newarray .int, 2) := by decide +kernel
theorem dX2_init_15 : decode cX2_init 15 = .ok (.putfield 15, 3) := by decide +kernel
theorem dX2_init_18 : decode cX2_init 18 = .ok (.aload_n 0, 1) := by decide +kernel
theorem dX2_init_19 : decode cX2_init 19 = .ok (.iconst 4, 1) := by decide +kernel
theorem dX2_init_20 : decode cX2_init 20 = .ok (.newarray .int, 2) := by decide +kernel
theorem dX2_init_22 : decode cX2_init 22 = .ok (.putfield 18, 3) := by decide +kernel
theorem dX2_init_25 : decode cX2_init 25 = .ok (.aload_n 0, 1) := by decide +kernel
theorem dX2_init_26 : decode cX2_init 26 = .ok (.iconst 4, 1) := by decide +kernel
theorem dX2_init_27 : decode cX2_init 27 = .ok (.newarray .int, 2) := by decide +kernel
theorem dX2_init_29 : decode cX2_init 29 = .ok (.putfield 21, 3) := by decide +kernel
theorem dX2_init_32 : decode cX2_init 32 = .ok (.aload_n 0, 1) := by decide +kernel
theorem dX2_init_33 : decode cX2_init 33 = .ok (.invokevirtual 24, 3) := by decide +kernel
theorem dX2_init_36 : decode cX2_init 36 = .ok (.return_, 1) := by decide +kernel
theorem dX2_begin_0 : decode cX2_begin 0 = .ok (.aload_n 0, 1) := by decide +kernel
theorem dX2_begin_1 : decode cX2_begin 1 = .ok (.iconst 0, 1) := by decide +kernel
theorem dX2_begin_2 : decode cX2_begin 2 = .ok (.putfield 27, 3) := by decide +kernel
theorem dX2_begin_5 : decode cX2_begin 5 = .ok (.aload_n 0, 1) := by decide +kernel
theorem dX2_begin_6 : decode cX2_begin 6 = .ok (.iconst 0, 1) := by decide +kernel
theorem dX2_begin_7 : decode cX2_begin 7 = .ok (.putfield 31, 3) := by decide +kernel
theorem dX2_begin_10 : decode cX2_begin 10 = .ok (.aload_n 0, 1) := by decide +kernel
theorem dX2_begin_11 : decode cX2_begin 11 = .ok (.iconst 0, 1) := by decide +kernel
theorem dX2_begin_12 : decode cX2_begin 12 = .ok (.putfield 34, 3) := by decide +kernel
theorem dX2_begin_15 : decode cX2_begin 15 = .ok (.aload_n 0, 1) := by decide +kernel
theorem dX2_begin_16 : decode cX2_begin 16 = .ok (.iconst 0, 1) := by decide +kernel
theorem dX2_begin_17 : decode cX2_begin 17 = .ok (.putfield 37, 3) := by decide +kernel
theorem dX2_begin_20 : decode cX2_begin 20 = .ok (.aload_n 0, 1) := by decide +kernel
theorem dX2_begin_21 : decode cX2_begin 21 = .ok (.bipush 40, 2) := by decide +kernel
theorem dX2_begin_23 : decode cX2_begin 23 = .ok (.putfield 40, 3) := by decide +kernel
theorem dX2_begin_26 : decode cX2_begin 26 = .ok (.aload_n 0, 1) := by decide +kernel
theorem dX2_begin_27 : decode cX2_begin 27 = .ok (.iconst 0, 1) := by decide +kernel
theorem dX2_begin_28 : decode cX2_begin 28 = .ok (.putfield 43, 3) := by decide +kernel
theorem dX2_begin_31 : decode cX2_begin 31 = .ok (.aload_n 0, 1) := by decide +kernel
theorem dX2_begin_32 : decode cX2_begin 32 = .ok (.iconst 0, 1) := by decide +kernel
theorem dX2_begin_33 : decode cX2_begin 33 = .ok (.putfield 46, 3) := by decide +kernel
theorem dX2_begin_36 : decode cX2_begin 36 = .ok (.aload_n 0, 1) := by decide +kernel
theorem dX2_begin_37 : decode cX2_begin 37 = .ok (.iconst 1, 1) := by decide +kernel
theorem dX2_begin_38 : decode cX2_begin 38 = .ok (.putfield 49, 3) := by decide +kernel
theorem dX2_begin_41 : decode cX2_begin 41 = .ok (.aload_n 0, 1) := by decide +kernel
theorem dX2_begin_42 : decode cX2_begin 42 = .ok (.iconst 1, 1) := by decide +kernel
theorem dX2_begin_43 : decode cX2_begin 43 = .ok (.putfield 52, 3) := by decide +kernel
theorem dX2_begin_46 : decode cX2_begin 46 = .ok (.aload_n 0, 1) := by decide +kernel
theorem dX2_begin_47 : decode cX2_begin 47 = .ok (.iconst 0, 1) := by decide +kernel
theorem dX2_begin_48 : decode cX2_begin 48 = .ok (.iconst 0, 1) := by decide +kernel
theorem dX2_begin_49 : decode cX2_begin 49 = .ok (.invokevirtual 55, 3) := by decide +kernel
theorem dX2_begin_52 : decode cX2_begin 52 = .ok (.aload_n 0, 1) := by decide +kernel
theorem dX2_begin_53 : decode cX2_begin 53 = .ok (.iconst 0, 1) := by decide +kernel
theorem dX2_begin_54 : decode cX2_begin 54 = .ok (.putfield 59, 3) := by decide +kernel
theorem dX2_begin_57 : decode cX2_begin 57 = .ok (.aload_n 0, 1) := by decide +kernel
theorem dX2_begin_58 : decode cX2_begin 58 = .ok (.iconst 0, 1) := by decide +kernel
theorem dX2_begin_59 : decode cX2_begin 59 = .ok (.putfield 62, 3) := by decide +kernel
theorem dX2_begin_62 : decode cX2_begin 62 = .ok (.aload_n 0, 1) := by decide +kernel
theorem dX2_begin_63 : decode cX2_begin 63 = .ok (.iconst 0, 1) := by decide +kernel
theorem dX2_begin_64 : decode cX2_begin 64 = .ok (.putfield 65, 3) := by decide +kernel
theorem dX2_begin_67 : decode cX2_begin 67 = .ok (.aload_n 0, 1) := by decide +kernel
theorem dX2_begin_68 : decode cX2_begin 68 = .ok (.iconst 0, 1) := by decide +kernel
theorem dX2_begin_69 : decode cX2_begin 69 = .ok (.putfield 68, 3) := by decide +kernel
theorem dX2_begin_72 : decode cX2_begin 72 = .ok (.return_, 1) := by decide +kernel
theorem dX2_copy_0 : decode cX2_copy 0 = .ok (.aload_n 1, 1) := by decide +kernel
theorem dX2_copy_1 : decode cX2_copy 1 = .ok (.getfield 9, 3) := by decide +kernel
theorem dX2_copy_4 : decode cX2_copy 4 = .ok (.iconst 0, 1) := by decide +kernel
theorem dX2_copy_5 : decode cX2_copy 5 = .ok (.aload_n 0, 1) := by decide +kernel
theorem dX2_copy_6 : decode cX2_copy 6 = .ok (.getfield 9, 3) := by decide +kernel
theorem dX2_copy_9 : decode cX2_copy 9 = .ok (.iconst 0, 1) := by decide +kernel
theorem dX2_copy_10 : decode cX2_copy 10 = .ok (.iconst 4, 1) := by decide +kernel
theorem dX2_copy_11 : decode cX2_copy 11 = .ok (.invokestatic 71, 3) := by decide +kernel
theorem dX2_copy_14 : decode cX2_copy 14 = .ok (.aload_n 1, 1) := by decide +kernel
theorem dX2_copy_15 : decode cX2_copy 15 = .ok (.getfield 15, 3) := by decide +kernel
theorem dX2_copy_18 : decode cX2_copy 18 = .ok (.iconst 0, 1) := by decide +kernel
theorem dX2_copy_19 : decode cX2_copy 19 = .ok (.aload_n 0, 1) := by decide +kernel
theorem dX2_copy_20 : decode cX2_copy 20 = .ok (.getfield 15, 3) := by decide +kernel
theorem dX2_copy_23 : decode cX2_copy 23 = .ok (.iconst 0, 1) := by decide +kernel
theorem dX2_copy_24 : decode cX2_copy 24 = .ok (.iconst 4, 1) := by decide +kernel
theorem dX2_copy_25 : decode cX2_copy 25 = .ok (.invokestatic 71, 3) := by decide +kernel
theorem dX2_copy_28 : decode cX2_copy 28 = .ok (.aload_n 1, 1) := by decide +kernel
theorem dX2_copy_29 : decode cX2_copy 29 = .ok (.getfield 18, 3) := by decide +kernel
theorem dX2_copy_32 : decode cX2_copy 32 = .ok (.iconst 0, 1) := by decide +kernel
theorem dX2_copy_33 : decode cX2_copy 33 = .ok (.aload_n 0, 1) := by decide +kernel
theorem dX2_copy_34 : decode cX2_copy 34 = .ok (.getfield 18, 3) := by decide +kernel
theorem dX2_copy_37 : decode cX2_copy 37 = .ok (.iconst 0, 1) := by decide +kernel
theorem dX2_copy_38 : decode cX2_copy 38 = .ok (.iconst 4, 1) := by decide +kernel
theorem dX2_copy_39 : decode cX2_copy 39 = .ok (.invokestatic 71, 3) := by decide +kernel
theorem dX2_copy_42 : decode cX2_copy 42 = .ok (.aload_n 1, 1) := by decide +kernel
theorem dX2_copy_43 : decode cX2_copy 43 = .ok (.getfield 21, 3) := by decide +kernel
theorem dX2_copy_46 : decode cX2_copy 46 = .ok (.iconst 0, 1) := by decide +kernel
theorem dX2_copy_47 : decode cX2_copy 47 = .ok (.aload_n 0, 1) := by decide +kernel
theorem dX2_copy_48 : decode cX2_copy 48 = .ok (.getfield 21, 3) := by decide +kernel
theorem dX2_copy_51 : decode cX2_copy 51 = .ok (.iconst 0, 1) := by decide +kernel
theorem dX2_copy_52 : decode cX2_copy 52 = .ok (.iconst 4, 1) := by decide +kernel
theorem dX2_copy_53 : decode cX2_copy 53 = .ok (.invokestatic 71, 3) := by decide +kernel
theorem dX2_copy_56 : decode cX2_copy 56 = .ok (.aload_n 0, 1) := by decide +kernel
theorem dX2_copy_57 : decode cX2_copy 57 = .ok (.aload_n 1, 1) := by decide +kernel
theorem dX2_copy_58 : decode cX2_copy 58 = .ok (.getfield 27, 3) := by decide +kernel
theorem dX2_copy_61 : decode cX2_copy 61 = .ok (.putfield 27, 3) := by decide +kernel
theorem dX2_copy_64 : decode cX2_copy 64 = .ok (.aload_n 0, 1) := by decide +kernel
theorem dX2_copy_65 : decode cX2_copy 65 = .ok (.aload_n 1, 1) := by decide +kernel
theorem dX2_copy_66 : decode cX2_copy 66 = .ok (.getfield 31, 3) := by decide +kernel
theorem dX2_copy_69 : decode cX2_copy 69 = .ok (.putfield 31, 3) := by decide +kernel
theorem dX2_copy_72 : decode cX2_copy 72 = .ok (.aload_n 0, 1) := by decide +kernel
theorem dX2_copy_73 : decode cX2_copy 73 = .ok (.aload_n 1, 1) := by decide +kernel
theorem dX2_copy_74 : decode cX2_copy 74 = .ok (.getfield 34, 3) := by decide +kernel
theorem dX2_copy_77 : decode cX2_copy 77 = .ok (.putfield 34, 3) := by decide +kernel
theorem dX2_copy_80 : decode cX2_copy 80 = .ok (.aload_n 0, 1) := by decide +kernel
theorem dX2_copy_81 : decode cX2_copy 81 = .ok (.aload_n 1, 1) := by decide +kernel
theorem dX2_copy_82 : decode cX2_copy 82 = .ok (.getfield 37, 3) := by decide +kernel
theorem dX2_copy_85 : decode cX2_copy 85 = .ok (.putfield 37, 3) := by decide +kernel
theorem dX2_copy_88 : decode cX2_copy 88 = .ok (.aload_n 0, 1) := by decide +kernel
theorem dX2_copy_89 : decode cX2_copy 89 = .ok (.aload_n 1, 1) := by decide +kernel
theorem dX2_copy_90 : decode cX2_copy 90 = .ok (.getfield 40, 3) := by decide +kernel
theorem dX2_copy_93 : decode cX2_copy 93 = .ok (.putfield 40, 3) := by decide +kernel
theorem dX2_copy_96 : decode cX2_copy 96 = .ok (.aload_n 0, 1) := by decide +kernel
theorem dX2_copy_97 : decode cX2_copy 97 = .ok (.aload_n 1, 1) := by decide +kernel
theorem dX2_copy_98 : decode cX2_copy 98 = .ok (.getfield 43, 3) := by decide +kernel
theorem dX2_copy_101 : decode cX2_copy 101 = .ok (.putfield 43, 3) := by decide +kernel
theorem dX2_copy_104 : decode cX2_copy 104 = .ok (.aload_n 0, 1) := by decide +kernel
theorem dX2_copy_105 : decode cX2_copy 105 = .ok (.aload_n 1, 1) := by decide +kernel
theorem dX2_copy_106 : decode cX2_copy 106 = .ok (.getfield 46, 3) := by decide +kernel
theorem dX2_copy_109 : decode cX2_copy 109 = .ok (.putfield 46, 3) := by decide +kernel
theorem dX2_copy_112 : decode cX2_copy 112 = .ok (.aload_n 0, 1) := by decide +kernel
theorem dX2_copy_113 : decode cX2_copy 113 = .ok (.aload_n 1, 1) := by decide +kernel
theorem dX2_copy_114 : decode cX2_copy 114 = .ok (.getfield 49, 3) := by decide +kernel
theorem dX2_copy_117 : decode cX2_copy 117 = .ok (.putfield 49, 3) := by decide +kernel
theorem dX2_copy_120 : decode cX2_copy 120 = .ok (.aload_n 0, 1) := by decide +kernel
theorem dX2_copy_121 : decode cX2_copy 121 = .ok (.aload_n 1, 1) := by decide +kernel
theorem dX2_copy_122 : decode cX2_copy 122 = .ok (.getfield 52, 3) := by decide +kernel
theorem dX2_copy_125 : decode cX2_copy 125 = .ok (.putfield 52, 3) := by decide +kernel
theorem dX2_copy_128 : decode cX2_copy 128 = .ok (.aload_n 0, 1) := by decide +kernel
theorem dX2_copy_129 : decode cX2_copy 129 = .ok (.aload_n 1, 1) := by decide +kernel
theorem dX2_copy_130 : decode cX2_copy 130 = .ok (.getfield 77, 3) := by decide +kernel
theorem dX2_copy_133 : decode cX2_copy 133 = .ok (.aload_n 1, 1) := by decide +kernel
theorem dX2_copy_134 : decode cX2_copy 134 = .ok (.getfield 80, 3) := by decide +kernel
theorem dX2_copy_137 : decode cX2_copy 137 = .ok (.invokevirtual 55, 3) := by decide +kernel
theorem dX2_copy_140 : decode cX2_copy 140 = .ok (.aload_n 0, 1) := by decide +kernel
theorem dX2_copy_141 : decode cX2_copy 141 = .ok (.aload_n 1, 1) := by decide +kernel
theorem dX2_copy_142 : decode cX2_copy 142 = .ok (.getfield 59, 3) := by decide +kernel
theorem dX2_copy_145 : decode cX2_copy 145 = .ok (.putfield 59, 3) := by decide +kernel
theorem dX2_copy_148 : decode cX2_copy 148 = .ok (.aload_n 0, 1) := by decide +kernel
theorem dX2_copy_149 : decode cX2_copy 149 = .ok (.aload_n 1, 1) := by decide +kernel
theorem dX2_copy_150 : decode cX2_copy 150 = .ok (.getfield 62, 3) := by decide +kernel
theorem dX2_copy_153 : decode cX2_copy 153 = .ok (.putfield 62, 3) := by decide +kernel
theorem dX2_copy_156 : decode cX2_copy 156 = .ok (.aload_n 0, 1) := by decide +kernel
theorem dX2_copy_157 : decode cX2_copy 157 = .ok (.aload_n 1, 1) := by decide +kernel
theorem dX2_copy_158 : decode cX2_copy 158 = .ok (.getfield 65, 3) := by decide +kernel
theorem dX2_copy_161 : decode cX2_copy 161 = .ok (.putfield 65, 3) := by decide +kernel
theorem dX2_copy_164 : decode cX2_copy 164 = .ok (.aload_n 0, 1) := by decide +kernel
theorem dX2_copy_165 : decode cX2_copy 165 = .ok (.aload_n 1, 1) := by decide +kernel
theorem dX2_copy_166 : decode cX2_copy 166 = .ok (.getfield 68, 3) := by decide +kernel
theorem dX2_copy_169 : decode cX2_copy 169 = .ok (.putfield 68, 3) := by decide +kernel
theorem dX2_copy_172 : decode cX2_copy 172 = .ok (.return_, 1) := by decide +kernel
theorem dX2_appoint_0 : decode cX2_appoint 0 = .ok (.aload_n 0, 1) := by decide +kernel
theorem dX2_appoint_1 : decode cX2_appoint 1 = .ok (.iload_n 1, 1) := by decide +kernel
theorem dX2_appoint_2 : decode cX2_appoint 2 = .ok (.putfield 77, 3) := by decide +kernel
theorem dX2_appoint_5 : decode cX2_appoint 5 = .ok (.aload_n 0, 1) := by decide +kernel
theorem dX2_appoint_6 : decode cX2_appoint 6 = .ok (.iload_n 2, 1) := by decide +kernel
theorem dX2_appoint_7 : decode cX2_appoint 7 = .ok (.putfield 80, 3) := by decide +kernel
theorem dX2_appoint_10 : decode cX2_appoint 10 = .ok (.return_, 1) := by decide +kernel
theorem dX2_addLand_0 : decode cX2_addLand 0 = .ok (.aload_n 0, 1) := by decide +kernel
theorem dX2_addLand_1 : decode cX2_addLand 1 = .ok (.getfield 27, 3) := by decide +kernel
theorem dX2_addLand_4 : decode cX2_addLand 4 = .ok (.iconst 4, 1) := by decide +kernel
theorem dX2_addLand_5 : decode cX2_addLand 5 = .ok (.if_icmp .ge 33, 3) := by decide +kernel
theorem dX2_addLand_8 : decode cX2_addLand 8 = .ok (.aload_n 0, 1) := by decide +kernel
theorem dX2_addLand_9 : decode cX2_addLand 9 = .ok (.getfield 9, 3) := by decide +kernel
theorem dX2_addLand_12 : decode cX2_addLand 12 = .ok (.aload_n 0, 1) := by decide +kernel
theorem dX2_addLand_13 : decode cX2_addLand 13 = .ok (.getfield 27, 3) := by decide +kernel
theorem dX2_addLand_16 : decode cX2_addLand 16 = .ok (.iload_n 1, 1) := by decide +kernel
theorem dX2_addLand_17 : decode cX2_addLand 17 = .ok (.iastore, 1) := by decide +kernel
theorem dX2_addLand_18 : decode cX2_addLand 18 = .ok (.aload_n 0, 1) := by decide +kernel
theorem dX2_addLand_19 : decode cX2_addLand 19 = .ok (.getfield 15, 3) := by decide +kernel
theorem dX2_addLand_22 : decode cX2_addLand 22 = .ok (.aload_n 0, 1) := by decide +kernel
theorem dX2_addLand_23 : decode cX2_addLand 23 = .ok (.getfield 27, 3) := by decide +kernel
theorem dX2_addLand_26 : decode cX2_addLand 26 = .ok (.iload_n 2, 1) := by decide +kernel
theorem dX2_addLand_27 : decode cX2_addLand 27 = .ok (.iastore, 1) := by decide +kernel
theorem dX2_addLand_28 : decode cX2_addLand 28 = .ok (.aload_n 0, 1) := by decide +kernel
theorem dX2_addLand_29 : decode cX2_addLand 29 = .ok (.dup, 1) := by decide +kernel
theorem dX2_addLand_30 : decode cX2_addLand 30 = .ok (.getfield 27, 3) := by decide +kernel
theorem dX2_addLand_33 : decode cX2_addLand 33 = .ok (.iconst 1, 1) := by decide +kernel
theorem dX2_addLand_34 : decode cX2_addLand 34 = .ok (.iadd, 1) := by decide +kernel
theorem dX2_addLand_35 : decode cX2_addLand 35 = .ok (.putfield 27, 3) := by decide +kernel
theorem dX2_addLand_38 : decode cX2_addLand 38 = .ok (.return_, 1) := by decide +kernel
theorem dX2_addReading_0 : decode cX2_addReading 0 = .ok (.aload_n 0, 1) := by decide +kernel
theorem dX2_addReading_1 : decode cX2_addReading 1 = .ok (.getfield 31, 3) := by decide +kernel
theorem dX2_addReading_4 : decode cX2_addReading 4 = .ok (.iconst 4, 1) := by decide +kernel
theorem dX2_addReading_5 : decode cX2_addReading 5 = .ok (.if_icmp .ge 33, 3) := by decide +kernel
theorem dX2_addReading_8 : decode cX2_addReading 8 = .ok (.aload_n 0, 1) := by decide +kernel
theorem dX2_addReading_9 : decode cX2_addReading 9 = .ok (.getfield 18, 3) := by decide +kernel
theorem dX2_addReading_12 : decode cX2_addReading 12 = .ok (.aload_n 0, 1) := by decide +kernel
theorem dX2_addReading_13 : decode cX2_addReading 13 = .ok (.getfield 31, 3) := by decide +kernel
theorem dX2_addReading_16 : decode cX2_addReading 16 = .ok (.iload_n 1, 1) := by decide +kernel
theorem dX2_addReading_17 : decode cX2_addReading 17 = .ok (.iastore, 1) := by decide +kernel
theorem dX2_addReading_18 : decode cX2_addReading 18 = .ok (.aload_n 0, 1) := by decide +kernel
theorem dX2_addReading_19 : decode cX2_addReading 19 = .ok (.getfield 21, 3) := by decide +kernel
theorem dX2_addReading_22 : decode cX2_addReading 22 = .ok (.aload_n 0, 1) := by decide +kernel
theorem dX2_addReading_23 : decode cX2_addReading 23 = .ok (.getfield 31, 3) := by decide +kernel
theorem dX2_addReading_26 : decode cX2_addReading 26 = .ok (.iload_n 2, 1) := by decide +kernel
theorem dX2_addReading_27 : decode cX2_addReading 27 = .ok (.iastore, 1) := by decide +kernel
theorem dX2_addReading_28 : decode cX2_addReading 28 = .ok (.aload_n 0, 1) := by decide +kernel
theorem dX2_addReading_29 : decode cX2_addReading 29 = .ok (.dup, 1) := by decide +kernel
theorem dX2_addReading_30 : decode cX2_addReading 30 = .ok (.getfield 31, 3) := by decide +kernel
theorem dX2_addReading_33 : decode cX2_addReading 33 = .ok (.iconst 1, 1) := by decide +kernel
theorem dX2_addReading_34 : decode cX2_addReading 34 = .ok (.iadd, 1) := by decide +kernel
theorem dX2_addReading_35 : decode cX2_addReading 35 = .ok (.putfield 31, 3) := by decide +kernel
theorem dX2_addReading_38 : decode cX2_addReading 38 = .ok (.return_, 1) := by decide +kernel
theorem dX2_yields_0 : decode cX2_yields 0 = .ok (.iload_n 1, 1) := by decide +kernel
theorem dX2_yields_1 : decode cX2_yields 1 = .ok (.iconst 1, 1) := by decide +kernel
theorem dX2_yields_2 : decode cX2_yields 2 = .ok (.if_icmp .ne 10, 3) := by decide +kernel
theorem dX2_yields_5 : decode cX2_yields 5 = .ok (.aload_n 0, 1) := by decide +kernel
theorem dX2_yields_6 : decode cX2_yields 6 = .ok (.getfield 9, 3) := by decide +kernel
theorem dX2_yields_9 : decode cX2_yields 9 = .ok (.goto 7, 3) := by decide +kernel
theorem dX2_yields_12 : decode cX2_yields 12 = .ok (.aload_n 0, 1) := by decide +kernel
theorem dX2_yields_13 : decode cX2_yields 13 = .ok (.getfield 15, 3) := by decide +kernel
theorem dX2_yields_16 : decode cX2_yields 16 = .ok (.areturn, 1) := by decide +kernel
theorem dX2_priceIn_0 : decode cX2_priceIn 0 = .ok (.iload_n 1, 1) := by decide +kernel
theorem dX2_priceIn_1 : decode cX2_priceIn 1 = .ok (.iconst 1, 1) := by decide +kernel
theorem dX2_priceIn_2 : decode cX2_priceIn 2 = .ok (.if_icmp .ne 10, 3) := by decide +kernel
theorem dX2_priceIn_5 : decode cX2_priceIn 5 = .ok (.aload_n 0, 1) := by decide +kernel
theorem dX2_priceIn_6 : decode cX2_priceIn 6 = .ok (.getfield 49, 3) := by decide +kernel
theorem dX2_priceIn_9 : decode cX2_priceIn 9 = .ok (.goto 7, 3) := by decide +kernel
theorem dX2_priceIn_12 : decode cX2_priceIn 12 = .ok (.aload_n 0, 1) := by decide +kernel
theorem dX2_priceIn_13 : decode cX2_priceIn 13 = .ok (.getfield 52, 3) := by decide +kernel
theorem dX2_priceIn_16 : decode cX2_priceIn 16 = .ok (.ireturn, 1) := by decide +kernel
theorem dX2_harvest_0 : decode cX2_harvest 0 = .ok (.iload_n 1, 1) := by decide +kernel
theorem dX2_harvest_1 : decode cX2_harvest 1 = .ok (.iconst 1, 1) := by decide +kernel
theorem dX2_harvest_2 : decode cX2_harvest 2 = .ok (.if_icmp .ne 10, 3) := by decide +kernel
theorem dX2_harvest_5 : decode cX2_harvest 5 = .ok (.aload_n 0, 1) := by decide +kernel
theorem dX2_harvest_6 : decode cX2_harvest 6 = .ok (.getfield 9, 3) := by decide +kernel
theorem dX2_harvest_9 : decode cX2_harvest 9 = .ok (.goto 7, 3) := by decide +kernel
theorem dX2_harvest_12 : decode cX2_harvest 12 = .ok (.aload_n 0, 1) := by decide +kernel
theorem dX2_harvest_13 : decode cX2_harvest 13 = .ok (.getfield 15, 3) := by decide +kernel
theorem dX2_harvest_16 : decode cX2_harvest 16 = .ok (.astore_n 2, 1) := by decide +kernel
theorem dX2_harvest_17 : decode cX2_harvest 17 = .ok (.iconst 0, 1) := by decide +kernel
theorem dX2_harvest_18 : decode cX2_harvest 18 = .ok (.istore_n 3, 1) := by decide +kernel
theorem dX2_harvest_19 : decode cX2_harvest 19 = .ok (.iconst 0, 1) := by decide +kernel
theorem dX2_harvest_20 : decode cX2_harvest 20 = .ok (.istore 4, 2) := by decide +kernel
theorem dX2_harvest_22 : decode cX2_harvest 22 = .ok (.iload 4, 2) := by decide +kernel
theorem dX2_harvest_24 : decode cX2_harvest 24 = .ok (.aload_n 0, 1) := by decide +kernel
theorem dX2_harvest_25 : decode cX2_harvest 25 = .ok (.getfield 27, 3) := by decide +kernel
theorem dX2_harvest_28 : decode cX2_harvest 28 = .ok (.if_icmp .ge 16, 3) := by decide +kernel
theorem dX2_harvest_31 : decode cX2_harvest 31 = .ok (.iload_n 3, 1) := by decide +kernel
theorem dX2_harvest_32 : decode cX2_harvest 32 = .ok (.aload_n 2, 1) := by decide +kernel
theorem dX2_harvest_33 : decode cX2_harvest 33 = .ok (.iload 4, 2) := by decide +kernel
theorem dX2_harvest_35 : decode cX2_harvest 35 = .ok (.iaload, 1) := by decide +kernel
theorem dX2_harvest_36 : decode cX2_harvest 36 = .ok (.iadd, 1) := by decide +kernel
theorem dX2_harvest_37 : decode cX2_harvest 37 = .ok (.istore_n 3, 1) := by decide +kernel
theorem dX2_harvest_38 : decode cX2_harvest 38 = .ok (.iinc 4 1, 3) := by decide +kernel
theorem dX2_harvest_41 : decode cX2_harvest 41 = .ok (.goto (-19), 3) := by decide +kernel
theorem dX2_harvest_44 : decode cX2_harvest 44 = .ok (.iload_n 3, 1) := by decide +kernel
theorem dX2_harvest_45 : decode cX2_harvest 45 = .ok (.ireturn, 1) := by decide +kernel
theorem dX2_isOver_0 : decode cX2_isOver 0 = .ok (.aload_n 0, 1) := by decide +kernel
theorem dX2_isOver_1 : decode cX2_isOver 1 = .ok (.getfield 59, 3) := by decide +kernel
theorem dX2_isOver_4 : decode cX2_isOver 4 = .ok (.bipush 8, 2) := by decide +kernel
theorem dX2_isOver_6 : decode cX2_isOver 6 = .ok (.if_icmp .lt 7, 3) := by decide +kernel
theorem dX2_isOver_9 : decode cX2_isOver 9 = .ok (.iconst 1, 1) := by decide +kernel
theorem dX2_isOver_10 : decode cX2_isOver 10 = .ok (.goto 4, 3) := by decide +kernel
theorem dX2_isOver_13 : decode cX2_isOver 13 = .ok (.iconst 0, 1) := by decide +kernel
theorem dX2_isOver_14 : decode cX2_isOver 14 = .ok (.ireturn, 1) := by decide +kernel
theorem dX2_foodIn_0 : decode cX2_foodIn 0 = .ok (.aload_n 0, 1) := by decide +kernel
theorem dX2_foodIn_1 : decode cX2_foodIn 1 = .ok (.getfield 46, 3) := by decide +kernel
theorem dX2_foodIn_4 : decode cX2_foodIn 4 = .ok (.aload_n 0, 1) := by decide +kernel
theorem dX2_foodIn_5 : decode cX2_foodIn 5 = .ok (.iload_n 1, 1) := by decide +kernel
theorem dX2_foodIn_6 : decode cX2_foodIn 6 = .ok (.invokevirtual 83, 3) := by decide +kernel
theorem dX2_foodIn_9 : decode cX2_foodIn 9 = .ok (.iadd, 1) := by decide +kernel
theorem dX2_foodIn_10 : decode cX2_foodIn 10 = .ok (.ireturn, 1) := by decide +kernel
theorem dX2_leftOf_0 : decode cX2_leftOf 0 = .ok (.iconst 0, 1) := by decide +kernel
theorem dX2_leftOf_1 : decode cX2_leftOf 1 = .ok (.iload_n 1, 1) := by decide +kernel
theorem dX2_leftOf_2 : decode cX2_leftOf 2 = .ok (.aload_n 0, 1) := by decide +kernel
theorem dX2_leftOf_3 : decode cX2_leftOf 3 = .ok (.getfield 34, 3) := by decide +kernel
theorem dX2_leftOf_6 : decode cX2_leftOf 6 = .ok (.isub, 1) := by decide +kernel
theorem dX2_leftOf_7 : decode cX2_leftOf 7 = .ok (.invokestatic 87, 3) := by decide +kernel
theorem dX2_leftOf_10 : decode cX2_leftOf 10 = .ok (.ireturn, 1) := by decide +kernel
theorem dX2_hungryOf_0 : decode cX2_hungryOf 0 = .ok (.iconst 0, 1) := by decide +kernel
theorem dX2_hungryOf_1 : decode cX2_hungryOf 1 = .ok (.aload_n 0, 1) := by decide +kernel
theorem dX2_hungryOf_2 : decode cX2_hungryOf 2 = .ok (.getfield 34, 3) := by decide +kernel
theorem dX2_hungryOf_5 : decode cX2_hungryOf 5 = .ok (.iload_n 1, 1) := by decide +kernel
theorem dX2_hungryOf_6 : decode cX2_hungryOf 6 = .ok (.isub, 1) := by decide +kernel
theorem dX2_hungryOf_7 : decode cX2_hungryOf 7 = .ok (.invokestatic 87, 3) := by decide +kernel
theorem dX2_hungryOf_10 : decode cX2_hungryOf 10 = .ok (.ireturn, 1) := by decide +kernel
theorem dX2_unrotten_0 : decode cX2_unrotten 0 = .ok (.aload_n 0, 1) := by decide +kernel
theorem dX2_unrotten_1 : decode cX2_unrotten 1 = .ok (.getfield 43, 3) := by decide +kernel
theorem dX2_unrotten_4 : decode cX2_unrotten 4 = .ok (.ifCond .ne 7, 3) := by decide +kernel
theorem dX2_unrotten_7 : decode cX2_unrotten 7 = .ok (.iload_n 1, 1) := by decide +kernel
theorem dX2_unrotten_8 : decode cX2_unrotten 8 = .ok (.goto 11, 3) := by decide +kernel
theorem dX2_unrotten_11 : decode cX2_unrotten 11 = .ok (.iload_n 1, 1) := by decide +kernel
theorem dX2_unrotten_12 : decode cX2_unrotten 12 = .ok (.iload_n 1, 1) := by decide +kernel
theorem dX2_unrotten_13 : decode cX2_unrotten 13 = .ok (.aload_n 0, 1) := by decide +kernel
theorem dX2_unrotten_14 : decode cX2_unrotten 14 = .ok (.getfield 43, 3) := by decide +kernel
theorem dX2_unrotten_17 : decode cX2_unrotten 17 = .ok (.idiv, 1) := by decide +kernel
theorem dX2_unrotten_18 : decode cX2_unrotten 18 = .ok (.isub, 1) := by decide +kernel
theorem dX2_unrotten_19 : decode cX2_unrotten 19 = .ok (.ireturn, 1) := by decide +kernel
theorem dX2_keptOf_0 : decode cX2_keptOf 0 = .ok (.aload_n 0, 1) := by decide +kernel
theorem dX2_keptOf_1 : decode cX2_keptOf 1 = .ok (.getfield 40, 3) := by decide +kernel
theorem dX2_keptOf_4 : decode cX2_keptOf 4 = .ok (.iload_n 1, 1) := by decide +kernel
theorem dX2_keptOf_5 : decode cX2_keptOf 5 = .ok (.aload_n 0, 1) := by decide +kernel
theorem dX2_keptOf_6 : decode cX2_keptOf 6 = .ok (.iload_n 1, 1) := by decide +kernel
theorem dX2_keptOf_7 : decode cX2_keptOf 7 = .ok (.invokevirtual 93, 3) := by decide +kernel
theorem dX2_keptOf_10 : decode cX2_keptOf 10 = .ok (.invokestatic 96, 3) := by decide +kernel
theorem dX2_keptOf_13 : decode cX2_keptOf 13 = .ok (.invokestatic 96, 3) := by decide +kernel
theorem dX2_keptOf_16 : decode cX2_keptOf 16 = .ok (.ireturn, 1) := by decide +kernel
theorem dX2_wantedOf_0 : decode cX2_wantedOf 0 = .ok (.aload_n 0, 1) := by decide +kernel
theorem dX2_wantedOf_1 : decode cX2_wantedOf 1 = .ok (.getfield 77, 3) := by decide +kernel
theorem dX2_wantedOf_4 : decode cX2_wantedOf 4 = .ok (.tableswitch 72 1 4 #[32, 53, 60, 62], 32) := by decide +kernel
theorem dX2_wantedOf_36 : decode cX2_wantedOf 36 = .ok (.aload_n 0, 1) := by decide +kernel
theorem dX2_wantedOf_37 : decode cX2_wantedOf 37 = .ok (.getfield 80, 3) := by decide +kernel
theorem dX2_wantedOf_40 : decode cX2_wantedOf 40 = .ok (.iconst 1, 1) := by decide +kernel
theorem dX2_wantedOf_41 : decode cX2_wantedOf 41 = .ok (.if_icmp .ge 7, 3) := by decide +kernel
theorem dX2_wantedOf_44 : decode cX2_wantedOf 44 = .ok (.iload_n 1, 1) := by decide +kernel
theorem dX2_wantedOf_45 : decode cX2_wantedOf 45 = .ok (.goto 11, 3) := by decide +kernel
theorem dX2_wantedOf_48 : decode cX2_wantedOf 48 = .ok (.iload_n 1, 1) := by decide +kernel
theorem dX2_wantedOf_49 : decode cX2_wantedOf 49 = .ok (.aload_n 0, 1) := by decide +kernel
theorem dX2_wantedOf_50 : decode cX2_wantedOf 50 = .ok (.getfield 80, 3) := by decide +kernel
theorem dX2_wantedOf_53 : decode cX2_wantedOf 53 = .ok (.iconst 1, 1) := by decide +kernel
theorem dX2_wantedOf_54 : decode cX2_wantedOf 54 = .ok (.iadd, 1) := by decide +kernel
theorem dX2_wantedOf_55 : decode cX2_wantedOf 55 = .ok (.idiv, 1) := by decide +kernel
theorem dX2_wantedOf_56 : decode cX2_wantedOf 56 = .ok (.ireturn, 1) := by decide +kernel
theorem dX2_wantedOf_57 : decode cX2_wantedOf 57 = .ok (.iconst 4, 1) := by decide +kernel
theorem dX2_wantedOf_58 : decode cX2_wantedOf 58 = .ok (.aload_n 0, 1) := by decide +kernel
theorem dX2_wantedOf_59 : decode cX2_wantedOf 59 = .ok (.getfield 80, 3) := by decide +kernel
theorem dX2_wantedOf_62 : decode cX2_wantedOf 62 = .ok (.imul, 1) := by decide +kernel
theorem dX2_wantedOf_63 : decode cX2_wantedOf 63 = .ok (.ireturn, 1) := by decide +kernel
theorem dX2_wantedOf_64 : decode cX2_wantedOf 64 = .ok (.iconst 0, 1) := by decide +kernel
theorem dX2_wantedOf_65 : decode cX2_wantedOf 65 = .ok (.ireturn, 1) := by decide +kernel
theorem dX2_wantedOf_66 : decode cX2_wantedOf 66 = .ok (.aload_n 0, 1) := by decide +kernel
theorem dX2_wantedOf_67 : decode cX2_wantedOf 67 = .ok (.getfield 34, 3) := by decide +kernel
theorem dX2_wantedOf_70 : decode cX2_wantedOf 70 = .ok (.aload_n 0, 1) := by decide +kernel
theorem dX2_wantedOf_71 : decode cX2_wantedOf 71 = .ok (.getfield 80, 3) := by decide +kernel
theorem dX2_wantedOf_74 : decode cX2_wantedOf 74 = .ok (.imul, 1) := by decide +kernel
theorem dX2_wantedOf_75 : decode cX2_wantedOf 75 = .ok (.ireturn, 1) := by decide +kernel
theorem dX2_wantedOf_76 : decode cX2_wantedOf 76 = .ok (.iload_n 1, 1) := by decide +kernel
theorem dX2_wantedOf_77 : decode cX2_wantedOf 77 = .ok (.ireturn, 1) := by decide +kernel
theorem dX2_pass_0 : decode cX2_pass 0 = .ok (.aload_n 0, 1) := by decide +kernel
theorem dX2_pass_1 : decode cX2_pass 1 = .ok (.iload_n 1, 1) := by decide +kernel
theorem dX2_pass_2 : decode cX2_pass 2 = .ok (.invokevirtual 99, 3) := by decide +kernel
theorem dX2_pass_5 : decode cX2_pass 5 = .ok (.istore_n 3, 1) := by decide +kernel
theorem dX2_pass_6 : decode cX2_pass 6 = .ok (.aload_n 0, 1) := by decide +kernel
theorem dX2_pass_7 : decode cX2_pass 7 = .ok (.iload_n 3, 1) := by decide +kernel
theorem dX2_pass_8 : decode cX2_pass 8 = .ok (.invokevirtual 102, 3) := by decide +kernel
theorem dX2_pass_11 : decode cX2_pass 11 = .ok (.istore 4, 2) := by decide +kernel
theorem dX2_pass_13 : decode cX2_pass 13 = .ok (.aload_n 0, 1) := by decide +kernel
theorem dX2_pass_14 : decode cX2_pass 14 = .ok (.dup, 1) := by decide +kernel
theorem dX2_pass_15 : decode cX2_pass 15 = .ok (.getfield 65, 3) := by decide +kernel
theorem dX2_pass_18 : decode cX2_pass 18 = .ok (.aload_n 0, 1) := by decide +kernel
theorem dX2_pass_19 : decode cX2_pass 19 = .ok (.iload_n 1, 1) := by decide +kernel
theorem dX2_pass_20 : decode cX2_pass 20 = .ok (.invokevirtual 105, 3) := by decide +kernel
theorem dX2_pass_23 : decode cX2_pass 23 = .ok (.aload_n 0, 1) := by decide +kernel
theorem dX2_pass_24 : decode cX2_pass 24 = .ok (.iload_n 3, 1) := by decide +kernel
theorem dX2_pass_25 : decode cX2_pass 25 = .ok (.invokevirtual 108, 3) := by decide +kernel
theorem dX2_pass_28 : decode cX2_pass 28 = .ok (.iload_n 2, 1) := by decide +kernel
theorem dX2_pass_29 : decode cX2_pass 29 = .ok (.isub, 1) := by decide +kernel
theorem dX2_pass_30 : decode cX2_pass 30 = .ok (.imul, 1) := by decide +kernel
theorem dX2_pass_31 : decode cX2_pass 31 = .ok (.iadd, 1) := by decide +kernel
theorem dX2_pass_32 : decode cX2_pass 32 = .ok (.putfield 65, 3) := by decide +kernel
theorem dX2_pass_35 : decode cX2_pass 35 = .ok (.aload_n 0, 1) := by decide +kernel
theorem dX2_pass_36 : decode cX2_pass 36 = .ok (.dup, 1) := by decide +kernel
theorem dX2_pass_37 : decode cX2_pass 37 = .ok (.getfield 68, 3) := by decide +kernel
theorem dX2_pass_40 : decode cX2_pass 40 = .ok (.iload 4, 2) := by decide +kernel
theorem dX2_pass_42 : decode cX2_pass 42 = .ok (.iadd, 1) := by decide +kernel
theorem dX2_pass_43 : decode cX2_pass 43 = .ok (.putfield 68, 3) := by decide +kernel
theorem dX2_pass_46 : decode cX2_pass 46 = .ok (.aload_n 0, 1) := by decide +kernel
theorem dX2_pass_47 : decode cX2_pass 47 = .ok (.aload_n 0, 1) := by decide +kernel
theorem dX2_pass_48 : decode cX2_pass 48 = .ok (.iload_n 2, 1) := by decide +kernel
theorem dX2_pass_49 : decode cX2_pass 49 = .ok (.invokevirtual 111, 3) := by decide +kernel
theorem dX2_pass_52 : decode cX2_pass 52 = .ok (.putfield 46, 3) := by decide +kernel
theorem dX2_pass_55 : decode cX2_pass 55 = .ok (.aload_n 0, 1) := by decide +kernel
theorem dX2_pass_56 : decode cX2_pass 56 = .ok (.dup, 1) := by decide +kernel
theorem dX2_pass_57 : decode cX2_pass 57 = .ok (.getfield 62, 3) := by decide +kernel
theorem dX2_pass_60 : decode cX2_pass 60 = .ok (.iload_n 1, 1) := by decide +kernel
theorem dX2_pass_61 : decode cX2_pass 61 = .ok (.aload_n 0, 1) := by decide +kernel
theorem dX2_pass_62 : decode cX2_pass 62 = .ok (.getfield 59, 3) := by decide +kernel
theorem dX2_pass_65 : decode cX2_pass 65 = .ok (.ishl, 1) := by decide +kernel
theorem dX2_pass_66 : decode cX2_pass 66 = .ok (.ior, 1) := by decide +kernel
theorem dX2_pass_67 : decode cX2_pass 67 = .ok (.putfield 62, 3) := by decide +kernel
theorem dX2_pass_70 : decode cX2_pass 70 = .ok (.aload_n 0, 1) := by decide +kernel
theorem dX2_pass_71 : decode cX2_pass 71 = .ok (.dup, 1) := by decide +kernel
theorem dX2_pass_72 : decode cX2_pass 72 = .ok (.getfield 59, 3) := by decide +kernel
theorem dX2_pass_75 : decode cX2_pass 75 = .ok (.iconst 1, 1) := by decide +kernel
theorem dX2_pass_76 : decode cX2_pass 76 = .ok (.iadd, 1) := by decide +kernel
theorem dX2_pass_77 : decode cX2_pass 77 = .ok (.putfield 59, 3) := by decide +kernel
theorem dX2_pass_80 : decode cX2_pass 80 = .ok (.iload 4, 2) := by decide +kernel
theorem dX2_pass_82 : decode cX2_pass 82 = .ok (.ireturn, 1) := by decide +kernel
theorem dX2_passTold_0 : decode cX2_passTold 0 = .ok (.iload_n 1, 1) := by decide +kernel
theorem dX2_passTold_1 : decode cX2_passTold 1 = .ok (.invokestatic 114, 3) := by decide +kernel
theorem dX2_passTold_4 : decode cX2_passTold 4 = .ok (.ifCond .eq 27, 3) := by decide +kernel
theorem dX2_passTold_7 : decode cX2_passTold 7 = .ok (.iload_n 2, 1) := by decide +kernel
theorem dX2_passTold_8 : decode cX2_passTold 8 = .ok (.iconst 0, 1) := by decide +kernel
theorem dX2_passTold_9 : decode cX2_passTold 9 = .ok (.aload_n 0, 1) := by decide +kernel
theorem dX2_passTold_10 : decode cX2_passTold 10 = .ok (.getfield 40, 3) := by decide +kernel
theorem dX2_passTold_13 : decode cX2_passTold 13 = .ok (.aload_n 0, 1) := by decide +kernel
theorem dX2_passTold_14 : decode cX2_passTold 14 = .ok (.aload_n 0, 1) := by decide +kernel
theorem dX2_passTold_15 : decode cX2_passTold 15 = .ok (.iload_n 1, 1) := by decide +kernel
theorem dX2_passTold_16 : decode cX2_passTold 16 = .ok (.invokevirtual 99, 3) := by decide +kernel
theorem dX2_passTold_19 : decode cX2_passTold 19 = .ok (.invokevirtual 108, 3) := by decide +kernel
theorem dX2_passTold_22 : decode cX2_passTold 22 = .ok (.invokestatic 96, 3) := by decide +kernel
theorem dX2_passTold_25 : decode cX2_passTold 25 = .ok (.invokestatic 118, 3) := by decide +kernel
theorem dX2_passTold_28 : decode cX2_passTold 28 = .ok (.ifCond .ne 5, 3) := by decide +kernel
theorem dX2_passTold_31 : decode cX2_passTold 31 = .ok (.iconst (-1), 1) := by decide +kernel
theorem dX2_passTold_32 : decode cX2_passTold 32 = .ok (.ireturn, 1) := by decide +kernel
theorem dX2_passTold_33 : decode cX2_passTold 33 = .ok (.aload_n 0, 1) := by decide +kernel
theorem dX2_passTold_34 : decode cX2_passTold 34 = .ok (.invokevirtual 122, 3) := by decide +kernel
theorem dX2_passTold_37 : decode cX2_passTold 37 = .ok (.ifCond .eq 8, 3) := by decide +kernel
theorem dX2_passTold_40 : decode cX2_passTold 40 = .ok (.bipush (-3), 2) := by decide +kernel
theorem dX2_passTold_42 : decode cX2_passTold 42 = .ok (.goto 9, 3) := by decide +kernel
theorem dX2_passTold_45 : decode cX2_passTold 45 = .ok (.aload_n 0, 1) := by decide +kernel
theorem dX2_passTold_46 : decode cX2_passTold 46 = .ok (.iload_n 1, 1) := by decide +kernel
theorem dX2_passTold_47 : decode cX2_passTold 47 = .ok (.iload_n 2, 1) := by decide +kernel
theorem dX2_passTold_48 : decode cX2_passTold 48 = .ok (.invokevirtual 126, 3) := by decide +kernel
theorem dX2_passTold_51 : decode cX2_passTold 51 = .ok (.ireturn, 1) := by decide +kernel
theorem dX2_passByHim_0 : decode cX2_passByHim 0 = .ok (.aload_n 0, 1) := by decide +kernel
theorem dX2_passByHim_1 : decode cX2_passByHim 1 = .ok (.iload_n 1, 1) := by decide +kernel
theorem dX2_passByHim_2 : decode cX2_passByHim 2 = .ok (.aload_n 0, 1) := by decide +kernel
theorem dX2_passByHim_3 : decode cX2_passByHim 3 = .ok (.aload_n 0, 1) := by decide +kernel
theorem dX2_passByHim_4 : decode cX2_passByHim 4 = .ok (.aload_n 0, 1) := by decide +kernel
theorem dX2_passByHim_5 : decode cX2_passByHim 5 = .ok (.iload_n 1, 1) := by decide +kernel
theorem dX2_passByHim_6 : decode cX2_passByHim 6 = .ok (.invokevirtual 99, 3) := by decide +kernel
theorem dX2_passByHim_9 : decode cX2_passByHim 9 = .ok (.invokevirtual 108, 3) := by decide +kernel
theorem dX2_passByHim_12 : decode cX2_passByHim 12 = .ok (.invokevirtual 129, 3) := by decide +kernel
theorem dX2_passByHim_15 : decode cX2_passByHim 15 = .ok (.invokevirtual 126, 3) := by decide +kernel
theorem dX2_passByHim_18 : decode cX2_passByHim 18 = .ok (.ireturn, 1) := by decide +kernel
theorem dX2_follow_0 : decode cX2_follow 0 = .ok (.iconst 0, 1) := by decide +kernel
theorem dX2_follow_1 : decode cX2_follow 1 = .ok (.istore_n 3, 1) := by decide +kernel
theorem dX2_follow_2 : decode cX2_follow 2 = .ok (.iload_n 3, 1) := by decide +kernel
theorem dX2_follow_3 : decode cX2_follow 3 = .ok (.iload_n 2, 1) := by decide +kernel
theorem dX2_follow_4 : decode cX2_follow 4 = .ok (.if_icmp .ge 30, 3) := by decide +kernel
theorem dX2_follow_7 : decode cX2_follow 7 = .ok (.aload_n 0, 1) := by decide +kernel
theorem dX2_follow_8 : decode cX2_follow 8 = .ok (.invokevirtual 122, 3) := by decide +kernel
theorem dX2_follow_11 : decode cX2_follow 11 = .ok (.ifCond .ne 23, 3) := by decide +kernel
theorem dX2_follow_14 : decode cX2_follow 14 = .ok (.aload_n 0, 1) := by decide +kernel
theorem dX2_follow_15 : decode cX2_follow 15 = .ok (.aload_n 0, 1) := by decide +kernel
theorem dX2_follow_16 : decode cX2_follow 16 = .ok (.iload_n 1, 1) := by decide +kernel
theorem dX2_follow_17 : decode cX2_follow 17 = .ok (.aload_n 0, 1) := by decide +kernel
theorem dX2_follow_18 : decode cX2_follow 18 = .ok (.getfield 59, 3) := by decide +kernel
theorem dX2_follow_21 : decode cX2_follow 21 = .ok (.invokevirtual 132, 3) := by decide +kernel
theorem dX2_follow_24 : decode cX2_follow 24 = .ok (.invokevirtual 135, 3) := by decide +kernel
theorem dX2_follow_27 : decode cX2_follow 27 = .ok (.pop, 1) := by decide +kernel
theorem dX2_follow_28 : decode cX2_follow 28 = .ok (.iinc 3 1, 3) := by decide +kernel
theorem dX2_follow_31 : decode cX2_follow 31 = .ok (.goto (-29), 3) := by decide +kernel
theorem dX2_follow_34 : decode cX2_follow 34 = .ok (.return_, 1) := by decide +kernel
theorem dX2_firstHunger_0 : decode cX2_firstHunger 0 = .ok (.aload_n 0, 1) := by decide +kernel
theorem dX2_firstHunger_1 : decode cX2_firstHunger 1 = .ok (.getfield 59, 3) := by decide +kernel
theorem dX2_firstHunger_4 : decode cX2_firstHunger 4 = .ok (.istore_n 2, 1) := by decide +kernel
theorem dX2_firstHunger_5 : decode cX2_firstHunger 5 = .ok (.iload_n 2, 1) := by decide +kernel
theorem dX2_firstHunger_6 : decode cX2_firstHunger 6 = .ok (.bipush 8, 2) := by decide +kernel
theorem dX2_firstHunger_8 : decode cX2_firstHunger 8 = .ok (.if_icmp .ge 24, 3) := by decide +kernel
theorem dX2_firstHunger_11 : decode cX2_firstHunger 11 = .ok (.aload_n 0, 1) := by decide +kernel
theorem dX2_firstHunger_12 : decode cX2_firstHunger 12 = .ok (.aload_n 0, 1) := by decide +kernel
theorem dX2_firstHunger_13 : decode cX2_firstHunger 13 = .ok (.iload_n 1, 1) := by decide +kernel
theorem dX2_firstHunger_14 : decode cX2_firstHunger 14 = .ok (.iload_n 2, 1) := by decide +kernel
theorem dX2_firstHunger_15 : decode cX2_firstHunger 15 = .ok (.invokevirtual 132, 3) := by decide +kernel
theorem dX2_firstHunger_18 : decode cX2_firstHunger 18 = .ok (.invokevirtual 135, 3) := by decide +kernel
theorem dX2_firstHunger_21 : decode cX2_firstHunger 21 = .ok (.ifCond .le 5, 3) := by decide +kernel
theorem dX2_firstHunger_24 : decode cX2_firstHunger 24 = .ok (.iload_n 2, 1) := by decide +kernel
theorem dX2_firstHunger_25 : decode cX2_firstHunger 25 = .ok (.ireturn, 1) := by decide +kernel
theorem dX2_firstHunger_26 : decode cX2_firstHunger 26 = .ok (.iinc 2 1, 3) := by decide +kernel
theorem dX2_firstHunger_29 : decode cX2_firstHunger 29 = .ok (.goto (-24), 3) := by decide +kernel
theorem dX2_firstHunger_32 : decode cX2_firstHunger 32 = .ok (.bipush (-4), 2) := by decide +kernel
theorem dX2_firstHunger_34 : decode cX2_firstHunger 34 = .ok (.ireturn, 1) := by decide +kernel
theorem dX2_fatIn_0 : decode cX2_fatIn 0 = .ok (.aload_n 0, 1) := by decide +kernel
theorem dX2_fatIn_1 : decode cX2_fatIn 1 = .ok (.getfield 18, 3) := by decide +kernel
theorem dX2_fatIn_4 : decode cX2_fatIn 4 = .ok (.iload_n 1, 1) := by decide +kernel
theorem dX2_fatIn_5 : decode cX2_fatIn 5 = .ok (.iaload, 1) := by decide +kernel
theorem dX2_fatIn_6 : decode cX2_fatIn 6 = .ok (.iload_n 2, 1) := by decide +kernel
theorem dX2_fatIn_7 : decode cX2_fatIn 7 = .ok (.ishr, 1) := by decide +kernel
theorem dX2_fatIn_8 : decode cX2_fatIn 8 = .ok (.iconst 1, 1) := by decide +kernel
theorem dX2_fatIn_9 : decode cX2_fatIn 9 = .ok (.iand, 1) := by decide +kernel
theorem dX2_fatIn_10 : decode cX2_fatIn 10 = .ok (.ireturn, 1) := by decide +kernel
theorem dX2_canBe_0 : decode cX2_canBe 0 = .ok (.iconst 1, 1) := by decide +kernel
theorem dX2_canBe_1 : decode cX2_canBe 1 = .ok (.aload_n 0, 1) := by decide +kernel
theorem dX2_canBe_2 : decode cX2_canBe 2 = .ok (.getfield 59, 3) := by decide +kernel
theorem dX2_canBe_5 : decode cX2_canBe 5 = .ok (.ishl, 1) := by decide +kernel
theorem dX2_canBe_6 : decode cX2_canBe 6 = .ok (.iconst 1, 1) := by decide +kernel
theorem dX2_canBe_7 : decode cX2_canBe 7 = .ok (.isub, 1) := by decide +kernel
theorem dX2_canBe_8 : decode cX2_canBe 8 = .ok (.istore_n 2, 1) := by decide +kernel
theorem dX2_canBe_9 : decode cX2_canBe 9 = .ok (.aload_n 0, 1) := by decide +kernel
theorem dX2_canBe_10 : decode cX2_canBe 10 = .ok (.getfield 18, 3) := by decide +kernel
theorem dX2_canBe_13 : decode cX2_canBe 13 = .ok (.iload_n 1, 1) := by decide +kernel
theorem dX2_canBe_14 : decode cX2_canBe 14 = .ok (.iaload, 1) := by decide +kernel
theorem dX2_canBe_15 : decode cX2_canBe 15 = .ok (.iload_n 2, 1) := by decide +kernel
theorem dX2_canBe_16 : decode cX2_canBe 16 = .ok (.iand, 1) := by decide +kernel
theorem dX2_canBe_17 : decode cX2_canBe 17 = .ok (.aload_n 0, 1) := by decide +kernel
theorem dX2_canBe_18 : decode cX2_canBe 18 = .ok (.getfield 62, 3) := by decide +kernel
theorem dX2_canBe_21 : decode cX2_canBe 21 = .ok (.if_icmp .ne 7, 3) := by decide +kernel
theorem dX2_canBe_24 : decode cX2_canBe 24 = .ok (.iconst 1, 1) := by decide +kernel
theorem dX2_canBe_25 : decode cX2_canBe 25 = .ok (.goto 4, 3) := by decide +kernel
theorem dX2_canBe_28 : decode cX2_canBe 28 = .ok (.iconst 0, 1) := by decide +kernel
theorem dX2_canBe_29 : decode cX2_canBe 29 = .ok (.ireturn, 1) := by decide +kernel
theorem dX2_possible_0 : decode cX2_possible 0 = .ok (.iconst 0, 1) := by decide +kernel
theorem dX2_possible_1 : decode cX2_possible 1 = .ok (.istore_n 1, 1) := by decide +kernel
theorem dX2_possible_2 : decode cX2_possible 2 = .ok (.iconst 0, 1) := by decide +kernel
theorem dX2_possible_3 : decode cX2_possible 3 = .ok (.istore_n 2, 1) := by decide +kernel
theorem dX2_possible_4 : decode cX2_possible 4 = .ok (.iload_n 2, 1) := by decide +kernel
theorem dX2_possible_5 : decode cX2_possible 5 = .ok (.aload_n 0, 1) := by decide +kernel
theorem dX2_possible_6 : decode cX2_possible 6 = .ok (.getfield 31, 3) := by decide +kernel
theorem dX2_possible_9 : decode cX2_possible 9 = .ok (.if_icmp .ge 23, 3) := by decide +kernel
theorem dX2_possible_12 : decode cX2_possible 12 = .ok (.aload_n 0, 1) := by decide +kernel
theorem dX2_possible_13 : decode cX2_possible 13 = .ok (.iload_n 2, 1) := by decide +kernel
theorem dX2_possible_14 : decode cX2_possible 14 = .ok (.invokevirtual 138, 3) := by decide +kernel
theorem dX2_possible_17 : decode cX2_possible 17 = .ok (.ifCond .eq 9, 3) := by decide +kernel
theorem dX2_possible_20 : decode cX2_possible 20 = .ok (.iload_n 1, 1) := by decide +kernel
theorem dX2_possible_21 : decode cX2_possible 21 = .ok (.iconst 1, 1) := by decide +kernel
theorem dX2_possible_22 : decode cX2_possible 22 = .ok (.iload_n 2, 1) := by decide +kernel
theorem dX2_possible_23 : decode cX2_possible 23 = .ok (.ishl, 1) := by decide +kernel
theorem dX2_possible_24 : decode cX2_possible 24 = .ok (.ior, 1) := by decide +kernel
theorem dX2_possible_25 : decode cX2_possible 25 = .ok (.istore_n 1, 1) := by decide +kernel
theorem dX2_possible_26 : decode cX2_possible 26 = .ok (.iinc 2 1, 3) := by decide +kernel
theorem dX2_possible_29 : decode cX2_possible 29 = .ok (.goto (-25), 3) := by decide +kernel
theorem dX2_possible_32 : decode cX2_possible 32 = .ok (.iload_n 1, 1) := by decide +kernel
theorem dX2_possible_33 : decode cX2_possible 33 = .ok (.ireturn, 1) := by decide +kernel
theorem dX2_telling_0 : decode cX2_telling 0 = .ok (.iconst 0, 1) := by decide +kernel
theorem dX2_telling_1 : decode cX2_telling 1 = .ok (.istore 4, 2) := by decide +kernel
theorem dX2_telling_3 : decode cX2_telling 3 = .ok (.iconst 0, 1) := by decide +kernel
theorem dX2_telling_4 : decode cX2_telling 4 = .ok (.istore 5, 2) := by decide +kernel
theorem dX2_telling_6 : decode cX2_telling 6 = .ok (.iload 5, 2) := by decide +kernel
theorem dX2_telling_8 : decode cX2_telling 8 = .ok (.aload_n 0, 1) := by decide +kernel
theorem dX2_telling_9 : decode cX2_telling 9 = .ok (.getfield 31, 3) := by decide +kernel
theorem dX2_telling_12 : decode cX2_telling 12 = .ok (.if_icmp .ge 38, 3) := by decide +kernel
theorem dX2_telling_15 : decode cX2_telling 15 = .ok (.iload_n 1, 1) := by decide +kernel
theorem dX2_telling_16 : decode cX2_telling 16 = .ok (.iload 5, 2) := by decide +kernel
theorem dX2_telling_18 : decode cX2_telling 18 = .ok (.invokestatic 141, 3) := by decide +kernel
theorem dX2_telling_21 : decode cX2_telling 21 = .ok (.ifCond .eq 23, 3) := by decide +kernel
theorem dX2_telling_24 : decode cX2_telling 24 = .ok (.aload_n 0, 1) := by decide +kernel
theorem dX2_telling_25 : decode cX2_telling 25 = .ok (.iload 5, 2) := by decide +kernel
theorem dX2_telling_27 : decode cX2_telling 27 = .ok (.iload_n 2, 1) := by decide +kernel
theorem dX2_telling_28 : decode cX2_telling 28 = .ok (.invokevirtual 132, 3) := by decide +kernel
theorem dX2_telling_31 : decode cX2_telling 31 = .ok (.iload_n 3, 1) := by decide +kernel
theorem dX2_telling_32 : decode cX2_telling 32 = .ok (.if_icmp .ne 12, 3) := by decide +kernel
theorem dX2_telling_35 : decode cX2_telling 35 = .ok (.iload 4, 2) := by decide +kernel
theorem dX2_telling_37 : decode cX2_telling 37 = .ok (.iconst 1, 1) := by decide +kernel
theorem dX2_telling_38 : decode cX2_telling 38 = .ok (.iload 5, 2) := by decide +kernel
theorem dX2_telling_40 : decode cX2_telling 40 = .ok (.ishl, 1) := by decide +kernel
theorem dX2_telling_41 : decode cX2_telling 41 = .ok (.ior, 1) := by decide +kernel
theorem dX2_telling_42 : decode cX2_telling 42 = .ok (.istore 4, 2) := by decide +kernel
theorem dX2_telling_44 : decode cX2_telling 44 = .ok (.iinc 5 1, 3) := by decide +kernel
theorem dX2_telling_47 : decode cX2_telling 47 = .ok (.goto (-41), 3) := by decide +kernel
theorem dX2_telling_50 : decode cX2_telling 50 = .ok (.iload 4, 2) := by decide +kernel
theorem dX2_telling_52 : decode cX2_telling 52 = .ok (.ireturn, 1) := by decide +kernel
theorem dX2_oddsOf_0 : decode cX2_oddsOf 0 = .ok (.iconst 0, 1) := by decide +kernel
theorem dX2_oddsOf_1 : decode cX2_oddsOf 1 = .ok (.istore_n 2, 1) := by decide +kernel
theorem dX2_oddsOf_2 : decode cX2_oddsOf 2 = .ok (.iconst 0, 1) := by decide +kernel
theorem dX2_oddsOf_3 : decode cX2_oddsOf 3 = .ok (.istore_n 3, 1) := by decide +kernel
theorem dX2_oddsOf_4 : decode cX2_oddsOf 4 = .ok (.iload_n 3, 1) := by decide +kernel
theorem dX2_oddsOf_5 : decode cX2_oddsOf 5 = .ok (.aload_n 0, 1) := by decide +kernel
theorem dX2_oddsOf_6 : decode cX2_oddsOf 6 = .ok (.getfield 31, 3) := by decide +kernel
theorem dX2_oddsOf_9 : decode cX2_oddsOf 9 = .ok (.if_icmp .ge 26, 3) := by decide +kernel
theorem dX2_oddsOf_12 : decode cX2_oddsOf 12 = .ok (.iload_n 1, 1) := by decide +kernel
theorem dX2_oddsOf_13 : decode cX2_oddsOf 13 = .ok (.iload_n 3, 1) := by decide +kernel
theorem dX2_oddsOf_14 : decode cX2_oddsOf 14 = .ok (.invokestatic 141, 3) := by decide +kernel
theorem dX2_oddsOf_17 : decode cX2_oddsOf 17 = .ok (.ifCond .eq 12, 3) := by decide +kernel
theorem dX2_oddsOf_20 : decode cX2_oddsOf 20 = .ok (.iload_n 2, 1) := by decide +kernel
theorem dX2_oddsOf_21 : decode cX2_oddsOf 21 = .ok (.aload_n 0, 1) := by decide +kernel
theorem dX2_oddsOf_22 : decode cX2_oddsOf 22 = .ok (.getfield 21, 3) := by decide +kernel
theorem dX2_oddsOf_25 : decode cX2_oddsOf 25 = .ok (.iload_n 3, 1) := by decide +kernel
theorem dX2_oddsOf_26 : decode cX2_oddsOf 26 = .ok (.iaload, 1) := by decide +kernel
theorem dX2_oddsOf_27 : decode cX2_oddsOf 27 = .ok (.iadd, 1) := by decide +kernel
theorem dX2_oddsOf_28 : decode cX2_oddsOf 28 = .ok (.istore_n 2, 1) := by decide +kernel
theorem dX2_oddsOf_29 : decode cX2_oddsOf 29 = .ok (.iinc 3 1, 3) := by decide +kernel
theorem dX2_oddsOf_32 : decode cX2_oddsOf 32 = .ok (.goto (-28), 3) := by decide +kernel
theorem dX2_oddsOf_35 : decode cX2_oddsOf 35 = .ok (.iload_n 2, 1) := by decide +kernel
theorem dX2_oddsOf_36 : decode cX2_oddsOf 36 = .ok (.ireturn, 1) := by decide +kernel
theorem dX3_init_0 : decode cX3_init 0 = .ok (.aload_n 0, 1) := by decide +kernel
theorem dX3_init_1 : decode cX3_init 1 = .ok (.invokespecial 3, 3) := by decide +kernel
theorem dX3_init_4 : decode cX3_init 4 = .ok (.aload_n 0, 1) := by decide +kernel
theorem dX3_init_5 : decode cX3_init 5 = .ok (.sipush 160, 3) := by decide +kernel
theorem dX3_init_8 : decode cX3_init 8 = .ok (.newarray .int, 2) := by decide +kernel
theorem dX3_init_10 : decode cX3_init 10 = .ok (.putfield 9, 3) := by decide +kernel
theorem dX3_init_13 : decode cX3_init 13 = .ok (.return_, 1) := by decide +kernel
theorem dX3_write_0 : decode cX3_write 0 = .ok (.aload_n 0, 1) := by decide +kernel
theorem dX3_write_1 : decode cX3_write 1 = .ok (.getfield 15, 3) := by decide +kernel
theorem dX3_write_4 : decode cX3_write 4 = .ok (.sipush 160, 3) := by decide +kernel
theorem dX3_write_7 : decode cX3_write 7 = .ok (.if_icmp .lt 5, 3) := by decide +kernel
theorem dX3_write_10 : decode cX3_write 10 = .ok (.iconst 0, 1) := by decide +kernel
theorem dX3_write_11 : decode cX3_write 11 = .ok (.ireturn, 1) := by decide +kernel
theorem dX3_write_12 : decode cX3_write 12 = .ok (.aload_n 0, 1) := by decide +kernel
theorem dX3_write_13 : decode cX3_write 13 = .ok (.getfield 9, 3) := by decide +kernel
theorem dX3_write_16 : decode cX3_write 16 = .ok (.aload_n 0, 1) := by decide +kernel
theorem dX3_write_17 : decode cX3_write 17 = .ok (.getfield 15, 3) := by decide +kernel
theorem dX3_write_20 : decode cX3_write 20 = .ok (.iload_n 1, 1) := by decide +kernel
theorem dX3_write_21 : decode cX3_write 21 = .ok (.iastore, 1) := by decide +kernel
theorem dX3_write_22 : decode cX3_write 22 = .ok (.aload_n 0, 1) := by decide +kernel
theorem dX3_write_23 : decode cX3_write 23 = .ok (.dup, 1) := by decide +kernel
theorem dX3_write_24 : decode cX3_write 24 = .ok (.getfield 15, 3) := by decide +kernel
theorem dX3_write_27 : decode cX3_write 27 = .ok (.iconst 1, 1) := by decide +kernel
theorem dX3_write_28 : decode cX3_write 28 = .ok (.iadd, 1) := by decide +kernel
theorem dX3_write_29 : decode cX3_write 29 = .ok (.putfield 15, 3) := by decide +kernel
theorem dX3_write_32 : decode cX3_write 32 = .ok (.iconst 1, 1) := by decide +kernel
theorem dX3_write_33 : decode cX3_write 33 = .ok (.ireturn, 1) := by decide +kernel
theorem dX3_begin_0 : decode cX3_begin 0 = .ok (.aload_n 0, 1) := by decide +kernel
theorem dX3_begin_1 : decode cX3_begin 1 = .ok (.aload_n 1, 1) := by decide +kernel
theorem dX3_begin_2 : decode cX3_begin 2 = .ok (.putfield 19, 3) := by decide +kernel
theorem dX3_begin_5 : decode cX3_begin 5 = .ok (.aload_n 0, 1) := by decide +kernel
theorem dX3_begin_6 : decode cX3_begin 6 = .ok (.getfield 19, 3) := by decide +kernel
theorem dX3_begin_9 : decode cX3_begin 9 = .ok (.invokevirtual 23, 3) := by decide +kernel
theorem dX3_begin_12 : decode cX3_begin 12 = .ok (.aload_n 0, 1) := by decide +kernel
theorem dX3_begin_13 : decode cX3_begin 13 = .ok (.iconst 0, 1) := by decide +kernel
theorem dX3_begin_14 : decode cX3_begin 14 = .ok (.putfield 28, 3) := by decide +kernel
theorem dX3_begin_17 : decode cX3_begin 17 = .ok (.aload_n 0, 1) := by decide +kernel
theorem dX3_begin_18 : decode cX3_begin 18 = .ok (.iconst 0, 1) := by decide +kernel
theorem dX3_begin_19 : decode cX3_begin 19 = .ok (.putfield 31, 3) := by decide +kernel
theorem dX3_begin_22 : decode cX3_begin 22 = .ok (.aload_n 0, 1) := by decide +kernel
theorem dX3_begin_23 : decode cX3_begin 23 = .ok (.iconst 0, 1) := by decide +kernel
theorem dX3_begin_24 : decode cX3_begin 24 = .ok (.putfield 34, 3) := by decide +kernel
theorem dX3_begin_27 : decode cX3_begin 27 = .ok (.aload_n 0, 1) := by decide +kernel
theorem dX3_begin_28 : decode cX3_begin 28 = .ok (.iconst 0, 1) := by decide +kernel
theorem dX3_begin_29 : decode cX3_begin 29 = .ok (.putfield 37, 3) := by decide +kernel
theorem dX3_begin_32 : decode cX3_begin 32 = .ok (.return_, 1) := by decide +kernel
theorem dX3_findsLine_0 : decode cX3_findsLine 0 = .ok (.aload_n 0, 1) := by decide +kernel
theorem dX3_findsLine_1 : decode cX3_findsLine 1 = .ok (.invokevirtual 40, 3) := by decide +kernel
theorem dX3_findsLine_4 : decode cX3_findsLine 4 = .ok (.aload_n 0, 1) := by decide +kernel
theorem dX3_findsLine_5 : decode cX3_findsLine 5 = .ok (.getfield 28, 3) := by decide +kernel
theorem dX3_findsLine_8 : decode cX3_findsLine 8 = .ok (.ifCond .ne 15, 3) := by decide +kernel
theorem dX3_findsLine_11 : decode cX3_findsLine 11 = .ok (.aload_n 0, 1) := by decide +kernel
theorem dX3_findsLine_12 : decode cX3_findsLine 12 = .ok (.getfield 43, 3) := by decide +kernel
theorem dX3_findsLine_15 : decode cX3_findsLine 15 = .ok (.iconst 3, 1) := by decide +kernel
theorem dX3_findsLine_16 : decode cX3_findsLine 16 = .ok (.if_icmp .eq 7, 3) := by decide +kernel
theorem dX3_findsLine_19 : decode cX3_findsLine 19 = .ok (.iconst 1, 1) := by decide +kernel
theorem dX3_findsLine_20 : decode cX3_findsLine 20 = .ok (.goto 4, 3) := by decide +kernel
theorem dX3_findsLine_23 : decode cX3_findsLine 23 = .ok (.iconst 0, 1) := by decide +kernel
theorem dX3_findsLine_24 : decode cX3_findsLine 24 = .ok (.ireturn, 1) := by decide +kernel
theorem dX3_fail_0 : decode cX3_fail 0 = .ok (.aload_n 0, 1) := by decide +kernel
theorem dX3_fail_1 : decode cX3_fail 1 = .ok (.getfield 28, 3) := by decide +kernel
theorem dX3_fail_4 : decode cX3_fail 4 = .ok (.ifCond .ne 16, 3) := by decide +kernel
theorem dX3_fail_7 : decode cX3_fail 7 = .ok (.aload_n 0, 1) := by decide +kernel
theorem dX3_fail_8 : decode cX3_fail 8 = .ok (.iload_n 1, 1) := by decide +kernel
theorem dX3_fail_9 : decode cX3_fail 9 = .ok (.putfield 28, 3) := by decide +kernel
theorem dX3_fail_12 : decode cX3_fail 12 = .ok (.aload_n 0, 1) := by decide +kernel
theorem dX3_fail_13 : decode cX3_fail 13 = .ok (.aload_n 0, 1) := by decide +kernel
theorem dX3_fail_14 : decode cX3_fail 14 = .ok (.getfield 46, 3) := by decide +kernel
theorem dX3_fail_17 : decode cX3_fail 17 = .ok (.putfield 31, 3) := by decide +kernel
theorem dX3_fail_20 : decode cX3_fail 20 = .ok (.return_, 1) := by decide +kernel
theorem dX3_take_0 : decode cX3_take 0 = .ok (.aload_n 0, 1) := by decide +kernel
theorem dX3_take_1 : decode cX3_take 1 = .ok (.getfield 28, 3) := by decide +kernel
theorem dX3_take_4 : decode cX3_take 4 = .ok (.ifCond .eq 4, 3) := by decide +kernel
theorem dX3_take_7 : decode cX3_take 7 = .ok (.return_, 1) := by decide +kernel
theorem dX3_take_8 : decode cX3_take 8 = .ok (.aload_n 0, 1) := by decide +kernel
theorem dX3_take_9 : decode cX3_take 9 = .ok (.getfield 37, 3) := by decide +kernel
theorem dX3_take_12 : decode cX3_take 12 = .ok (.aload_n 0, 1) := by decide +kernel
theorem dX3_take_13 : decode cX3_take 13 = .ok (.getfield 15, 3) := by decide +kernel
theorem dX3_take_16 : decode cX3_take 16 = .ok (.if_icmp .ge 30, 3) := by decide +kernel
theorem dX3_take_19 : decode cX3_take 19 = .ok (.aload_n 0, 1) := by decide +kernel
theorem dX3_take_20 : decode cX3_take 20 = .ok (.getfield 9, 3) := by decide +kernel
theorem dX3_take_23 : decode cX3_take 23 = .ok (.aload_n 0, 1) := by decide +kernel
theorem dX3_take_24 : decode cX3_take 24 = .ok (.getfield 37, 3) := by decide +kernel
theorem dX3_take_27 : decode cX3_take 27 = .ok (.iaload, 1) := by decide +kernel
theorem dX3_take_28 : decode cX3_take 28 = .ok (.bipush 32, 2) := by decide +kernel
theorem dX3_take_30 : decode cX3_take 30 = .ok (.if_icmp .ne 16, 3) := by decide +kernel
theorem dX3_take_33 : decode cX3_take 33 = .ok (.aload_n 0, 1) := by decide +kernel
theorem dX3_take_34 : decode cX3_take 34 = .ok (.dup, 1) := by decide +kernel
theorem dX3_take_35 : decode cX3_take 35 = .ok (.getfield 37, 3) := by decide +kernel
theorem dX3_take_38 : decode cX3_take 38 = .ok (.iconst 1, 1) := by decide +kernel
theorem dX3_take_39 : decode cX3_take 39 = .ok (.iadd, 1) := by decide +kernel
theorem dX3_take_40 : decode cX3_take 40 = .ok (.putfield 37, 3) := by decide +kernel
theorem dX3_take_43 : decode cX3_take 43 = .ok (.goto (-35), 3) := by decide +kernel
theorem dX3_take_46 : decode cX3_take 46 = .ok (.aload_n 0, 1) := by decide +kernel
theorem dX3_take_47 : decode cX3_take 47 = .ok (.aload_n 0, 1) := by decide +kernel
theorem dX3_take_48 : decode cX3_take 48 = .ok (.getfield 37, 3) := by decide +kernel
theorem dX3_take_51 : decode cX3_take 51 = .ok (.putfield 46, 3) := by decide +kernel
theorem dX3_take_54 : decode cX3_take 54 = .ok (.aload_n 0, 1) := by decide +kernel
theorem dX3_take_55 : decode cX3_take 55 = .ok (.getfield 37, 3) := by decide +kernel
theorem dX3_take_58 : decode cX3_take 58 = .ok (.aload_n 0, 1) := by decide +kernel
theorem dX3_take_59 : decode cX3_take 59 = .ok (.getfield 15, 3) := by decide +kernel
theorem dX3_take_62 : decode cX3_take 62 = .ok (.if_icmp .lt 11, 3) := by decide +kernel
theorem dX3_take_65 : decode cX3_take 65 = .ok (.aload_n 0, 1) := by decide +kernel
theorem dX3_take_66 : decode cX3_take 66 = .ok (.iconst 3, 1) := by decide +kernel
theorem dX3_take_67 : decode cX3_take 67 = .ok (.putfield 43, 3) := by decide +kernel
theorem dX3_take_70 : decode cX3_take 70 = .ok (.goto 84, 3) := by decide +kernel
theorem dX3_take_73 : decode cX3_take 73 = .ok (.aload_n 0, 1) := by decide +kernel
theorem dX3_take_74 : decode cX3_take 74 = .ok (.getfield 9, 3) := by decide +kernel
theorem dX3_take_77 : decode cX3_take 77 = .ok (.aload_n 0, 1) := by decide +kernel
theorem dX3_take_78 : decode cX3_take 78 = .ok (.getfield 37, 3) := by decide +kernel
theorem dX3_take_81 : decode cX3_take 81 = .ok (.iaload, 1) := by decide +kernel
theorem dX3_take_82 : decode cX3_take 82 = .ok (.bipush 59, 2) := by decide +kernel
theorem dX3_take_84 : decode cX3_take 84 = .ok (.if_icmp .ne 21, 3) := by decide +kernel
theorem dX3_take_87 : decode cX3_take 87 = .ok (.aload_n 0, 1) := by decide +kernel
theorem dX3_take_88 : decode cX3_take 88 = .ok (.iconst 2, 1) := by decide +kernel
theorem dX3_take_89 : decode cX3_take 89 = .ok (.putfield 43, 3) := by decide +kernel
theorem dX3_take_92 : decode cX3_take 92 = .ok (.aload_n 0, 1) := by decide +kernel
theorem dX3_take_93 : decode cX3_take 93 = .ok (.dup, 1) := by decide +kernel
theorem dX3_take_94 : decode cX3_take 94 = .ok (.getfield 37, 3) := by decide +kernel
theorem dX3_take_97 : decode cX3_take 97 = .ok (.iconst 1, 1) := by decide +kernel
theorem dX3_take_98 : decode cX3_take 98 = .ok (.iadd, 1) := by decide +kernel
theorem dX3_take_99 : decode cX3_take 99 = .ok (.putfield 37, 3) := by decide +kernel
theorem dX3_take_102 : decode cX3_take 102 = .ok (.goto 52, 3) := by decide +kernel
theorem dX3_take_105 : decode cX3_take 105 = .ok (.aload_n 0, 1) := by decide +kernel
theorem dX3_take_106 : decode cX3_take 106 = .ok (.getfield 9, 3) := by decide +kernel
theorem dX3_take_109 : decode cX3_take 109 = .ok (.aload_n 0, 1) := by decide +kernel
theorem dX3_take_110 : decode cX3_take 110 = .ok (.getfield 37, 3) := by decide +kernel
theorem dX3_take_113 : decode cX3_take 113 = .ok (.iaload, 1) := by decide +kernel
theorem dX3_take_114 : decode cX3_take 114 = .ok (.invokestatic 49, 3) := by decide +kernel
theorem dX3_take_117 : decode cX3_take 117 = .ok (.ifCond .eq 10, 3) := by decide +kernel
theorem dX3_take_120 : decode cX3_take 120 = .ok (.aload_n 0, 1) := by decide +kernel
theorem dX3_take_121 : decode cX3_take 121 = .ok (.invokevirtual 53, 3) := by decide +kernel
theorem dX3_take_124 : decode cX3_take 124 = .ok (.goto 30, 3) := by decide +kernel
theorem dX3_take_127 : decode cX3_take 127 = .ok (.aload_n 0, 1) := by decide +kernel
theorem dX3_take_128 : decode cX3_take 128 = .ok (.getfield 9, 3) := by decide +kernel
theorem dX3_take_131 : decode cX3_take 131 = .ok (.aload_n 0, 1) := by decide +kernel
theorem dX3_take_132 : decode cX3_take 132 = .ok (.getfield 37, 3) := by decide +kernel
theorem dX3_take_135 : decode cX3_take 135 = .ok (.iaload, 1) := by decide +kernel
theorem dX3_take_136 : decode cX3_take 136 = .ok (.invokestatic 56, 3) := by decide +kernel
theorem dX3_take_139 : decode cX3_take 139 = .ok (.ifCond .eq 10, 3) := by decide +kernel
theorem dX3_take_142 : decode cX3_take 142 = .ok (.aload_n 0, 1) := by decide +kernel
theorem dX3_take_143 : decode cX3_take 143 = .ok (.invokevirtual 59, 3) := by decide +kernel
theorem dX3_take_146 : decode cX3_take 146 = .ok (.goto 8, 3) := by decide +kernel
theorem dX3_take_149 : decode cX3_take 149 = .ok (.aload_n 0, 1) := by decide +kernel
theorem dX3_take_150 : decode cX3_take 150 = .ok (.iconst 1, 1) := by decide +kernel
theorem dX3_take_151 : decode cX3_take 151 = .ok (.invokevirtual 62, 3) := by decide +kernel
theorem dX3_take_154 : decode cX3_take 154 = .ok (.return_, 1) := by decide +kernel
theorem dX3_takeWord_0 : decode cX3_takeWord 0 = .ok (.aload_n 0, 1) := by decide +kernel
theorem dX3_takeWord_1 : decode cX3_takeWord 1 = .ok (.iconst 0, 1) := by decide +kernel
theorem dX3_takeWord_2 : decode cX3_takeWord 2 = .ok (.putfield 43, 3) := by decide +kernel
theorem dX3_takeWord_5 : decode cX3_takeWord 5 = .ok (.aload_n 0, 1) := by decide +kernel
theorem dX3_takeWord_6 : decode cX3_takeWord 6 = .ok (.getfield 37, 3) := by decide +kernel
theorem dX3_takeWord_9 : decode cX3_takeWord 9 = .ok (.aload_n 0, 1) := by decide +kernel
theorem dX3_takeWord_10 : decode cX3_takeWord 10 = .ok (.getfield 15, 3) := by decide +kernel
theorem dX3_takeWord_13 : decode cX3_takeWord 13 = .ok (.if_icmp .ge 31, 3) := by decide +kernel
theorem dX3_takeWord_16 : decode cX3_takeWord 16 = .ok (.aload_n 0, 1) := by decide +kernel
theorem dX3_takeWord_17 : decode cX3_takeWord 17 = .ok (.getfield 9, 3) := by decide +kernel
theorem dX3_takeWord_20 : decode cX3_takeWord 20 = .ok (.aload_n 0, 1) := by decide +kernel
theorem dX3_takeWord_21 : decode cX3_takeWord 21 = .ok (.getfield 37, 3) := by decide +kernel
theorem dX3_takeWord_24 : decode cX3_takeWord 24 = .ok (.iaload, 1) := by decide +kernel
theorem dX3_takeWord_25 : decode cX3_takeWord 25 = .ok (.invokestatic 49, 3) := by decide +kernel
theorem dX3_takeWord_28 : decode cX3_takeWord 28 = .ok (.ifCond .eq 16, 3) := by decide +kernel
theorem dX3_takeWord_31 : decode cX3_takeWord 31 = .ok (.aload_n 0, 1) := by decide +kernel
theorem dX3_takeWord_32 : decode cX3_takeWord 32 = .ok (.dup, 1) := by decide +kernel
theorem dX3_takeWord_33 : decode cX3_takeWord 33 = .ok (.getfield 37, 3) := by decide +kernel
theorem dX3_takeWord_36 : decode cX3_takeWord 36 = .ok (.iconst 1, 1) := by decide +kernel
theorem dX3_takeWord_37 : decode cX3_takeWord 37 = .ok (.iadd, 1) := by decide +kernel
theorem dX3_takeWord_38 : decode cX3_takeWord 38 = .ok (.putfield 37, 3) := by decide +kernel
theorem dX3_takeWord_41 : decode cX3_takeWord 41 = .ok (.goto (-36), 3) := by decide +kernel
theorem dX3_takeWord_44 : decode cX3_takeWord 44 = .ok (.return_, 1) := by decide +kernel
theorem dX3_takeNumber_0 : decode cX3_takeNumber 0 = .ok (.aload_n 0, 1) := by decide +kernel
theorem dX3_takeNumber_1 : decode cX3_takeNumber 1 = .ok (.iconst 1, 1) := by decide +kernel
theorem dX3_takeNumber_2 : decode cX3_takeNumber 2 = .ok (.putfield 43, 3) := by decide +kernel
theorem dX3_takeNumber_5 : decode cX3_takeNumber 5 = .ok (.aload_n 0, 1) := by decide +kernel
theorem dX3_takeNumber_6 : decode cX3_takeNumber 6 = .ok (.iconst 0, 1) := by decide +kernel
theorem dX3_takeNumber_7 : decode cX3_takeNumber 7 = .ok (.putfield 66, 3) := by decide +kernel
theorem dX3_takeNumber_10 : decode cX3_takeNumber 10 = .ok (.aload_n 0, 1) := by decide +kernel
theorem dX3_takeNumber_11 : decode cX3_takeNumber 11 = .ok (.getfield 37, 3) := by decide +kernel
theorem dX3_takeNumber_14 : decode cX3_takeNumber 14 = .ok (.aload_n 0, 1) := by decide +kernel
theorem dX3_takeNumber_15 : decode cX3_takeNumber 15 = .ok (.getfield 15, 3) := by decide +kernel
theorem dX3_takeNumber_18 : decode cX3_takeNumber 18 = .ok (.if_icmp .ge 68, 3) := by decide +kernel
theorem dX3_takeNumber_21 : decode cX3_takeNumber 21 = .ok (.aload_n 0, 1) := by decide +kernel
theorem dX3_takeNumber_22 : decode cX3_takeNumber 22 = .ok (.getfield 37, 3) := by decide +kernel
theorem dX3_takeNumber_25 : decode cX3_takeNumber 25 = .ok (.aload_n 0, 1) := by decide +kernel
theorem dX3_takeNumber_26 : decode cX3_takeNumber 26 = .ok (.getfield 46, 3) := by decide +kernel
theorem dX3_takeNumber_29 : decode cX3_takeNumber 29 = .ok (.isub, 1) := by decide +kernel
theorem dX3_takeNumber_30 : decode cX3_takeNumber 30 = .ok (.iconst 2, 1) := by decide +kernel
theorem dX3_takeNumber_31 : decode cX3_takeNumber 31 = .ok (.if_icmp .gt 55, 3) := by decide +kernel
theorem dX3_takeNumber_34 : decode cX3_takeNumber 34 = .ok (.aload_n 0, 1) := by decide +kernel
theorem dX3_takeNumber_35 : decode cX3_takeNumber 35 = .ok (.getfield 9, 3) := by decide +kernel
theorem dX3_takeNumber_38 : decode cX3_takeNumber 38 = .ok (.aload_n 0, 1) := by decide +kernel
theorem dX3_takeNumber_39 : decode cX3_takeNumber 39 = .ok (.getfield 37, 3) := by decide +kernel
theorem dX3_takeNumber_42 : decode cX3_takeNumber 42 = .ok (.iaload, 1) := by decide +kernel
theorem dX3_takeNumber_43 : decode cX3_takeNumber 43 = .ok (.invokestatic 56, 3) := by decide +kernel
theorem dX3_takeNumber_46 : decode cX3_takeNumber 46 = .ok (.ifCond .eq 40, 3) := by decide +kernel
theorem dX3_takeNumber_49 : decode cX3_takeNumber 49 = .ok (.aload_n 0, 1) := by decide +kernel
theorem dX3_takeNumber_50 : decode cX3_takeNumber 50 = .ok (.aload_n 0, 1) := by decide +kernel
theorem dX3_takeNumber_51 : decode cX3_takeNumber 51 = .ok (.getfield 66, 3) := by decide +kernel
theorem dX3_takeNumber_54 : decode cX3_takeNumber 54 = .ok (.bipush 10, 2) := by decide +kernel
theorem dX3_takeNumber_56 : decode cX3_takeNumber 56 = .ok (.imul, 1) := by decide +kernel
theorem dX3_takeNumber_57 : decode cX3_takeNumber 57 = .ok (.aload_n 0, 1) := by decide +kernel
theorem dX3_takeNumber_58 : decode cX3_takeNumber 58 = .ok (.getfield 9, 3) := by decide +kernel
theorem dX3_takeNumber_61 : decode cX3_takeNumber 61 = .ok (.aload_n 0, 1) := by decide +kernel
theorem dX3_takeNumber_62 : decode cX3_takeNumber 62 = .ok (.getfield 37, 3) := by decide +kernel
theorem dX3_takeNumber_65 : decode cX3_takeNumber 65 = .ok (.iaload, 1) := by decide +kernel
theorem dX3_takeNumber_66 : decode cX3_takeNumber 66 = .ok (.iadd, 1) := by decide +kernel
theorem dX3_takeNumber_67 : decode cX3_takeNumber 67 = .ok (.bipush 48, 2) := by decide +kernel
theorem dX3_takeNumber_69 : decode cX3_takeNumber 69 = .ok (.isub, 1) := by decide +kernel
theorem dX3_takeNumber_70 : decode cX3_takeNumber 70 = .ok (.putfield 66, 3) := by decide +kernel
theorem dX3_takeNumber_73 : decode cX3_takeNumber 73 = .ok (.aload_n 0, 1) := by decide +kernel
theorem dX3_takeNumber_74 : decode cX3_takeNumber 74 = .ok (.dup, 1) := by decide +kernel
theorem dX3_takeNumber_75 : decode cX3_takeNumber 75 = .ok (.getfield 37, 3) := by decide +kernel
theorem dX3_takeNumber_78 : decode cX3_takeNumber 78 = .ok (.iconst 1, 1) := by decide +kernel
theorem dX3_takeNumber_79 : decode cX3_takeNumber 79 = .ok (.iadd, 1) := by decide +kernel
theorem dX3_takeNumber_80 : decode cX3_takeNumber 80 = .ok (.putfield 37, 3) := by decide +kernel
theorem dX3_takeNumber_83 : decode cX3_takeNumber 83 = .ok (.goto (-73), 3) := by decide +kernel
theorem dX3_takeNumber_86 : decode cX3_takeNumber 86 = .ok (.aload_n 0, 1) := by decide +kernel
theorem dX3_takeNumber_87 : decode cX3_takeNumber 87 = .ok (.getfield 37, 3) := by decide +kernel
theorem dX3_takeNumber_90 : decode cX3_takeNumber 90 = .ok (.aload_n 0, 1) := by decide +kernel
theorem dX3_takeNumber_91 : decode cX3_takeNumber 91 = .ok (.getfield 46, 3) := by decide +kernel
theorem dX3_takeNumber_94 : decode cX3_takeNumber 94 = .ok (.isub, 1) := by decide +kernel
theorem dX3_takeNumber_95 : decode cX3_takeNumber 95 = .ok (.iconst 2, 1) := by decide +kernel
theorem dX3_takeNumber_96 : decode cX3_takeNumber 96 = .ok (.if_icmp .le 8, 3) := by decide +kernel
theorem dX3_takeNumber_99 : decode cX3_takeNumber 99 = .ok (.aload_n 0, 1) := by decide +kernel
theorem dX3_takeNumber_100 : decode cX3_takeNumber 100 = .ok (.iconst 1, 1) := by decide +kernel
theorem dX3_takeNumber_101 : decode cX3_takeNumber 101 = .ok (.invokevirtual 62, 3) := by decide +kernel
theorem dX3_takeNumber_104 : decode cX3_takeNumber 104 = .ok (.return_, 1) := by decide +kernel
theorem dX3_isLetter_0 : decode cX3_isLetter 0 = .ok (.iload_n 0, 1) := by decide +kernel
theorem dX3_isLetter_1 : decode cX3_isLetter 1 = .ok (.bipush 97, 2) := by decide +kernel
theorem dX3_isLetter_3 : decode cX3_isLetter 3 = .ok (.if_icmp .lt 13, 3) := by decide +kernel
theorem dX3_isLetter_6 : decode cX3_isLetter 6 = .ok (.iload_n 0, 1) := by decide +kernel
theorem dX3_isLetter_7 : decode cX3_isLetter 7 = .ok (.bipush 122, 2) := by decide +kernel
theorem dX3_isLetter_9 : decode cX3_isLetter 9 = .ok (.if_icmp .gt 7, 3) := by decide +kernel
theorem dX3_isLetter_12 : decode cX3_isLetter 12 = .ok (.iconst 1, 1) := by decide +kernel
theorem dX3_isLetter_13 : decode cX3_isLetter 13 = .ok (.goto 4, 3) := by decide +kernel
theorem dX3_isLetter_16 : decode cX3_isLetter 16 = .ok (.iconst 0, 1) := by decide +kernel
theorem dX3_isLetter_17 : decode cX3_isLetter 17 = .ok (.ireturn, 1) := by decide +kernel
theorem dX3_isFigure_0 : decode cX3_isFigure 0 = .ok (.iload_n 0, 1) := by decide +kernel
theorem dX3_isFigure_1 : decode cX3_isFigure 1 = .ok (.bipush 48, 2) := by decide +kernel
theorem dX3_isFigure_3 : decode cX3_isFigure 3 = .ok (.if_icmp .lt 13, 3) := by decide +kernel
theorem dX3_isFigure_6 : decode cX3_isFigure 6 = .ok (.iload_n 0, 1) := by decide +kernel
theorem dX3_isFigure_7 : decode cX3_isFigure 7 = .ok (.bipush 57, 2) := by decide +kernel
theorem dX3_isFigure_9 : decode cX3_isFigure 9 = .ok (.if_icmp .gt 7, 3) := by decide +kernel
theorem dX3_isFigure_12 : decode cX3_isFigure 12 = .ok (.iconst 1, 1) := by decide +kernel
theorem dX3_isFigure_13 : decode cX3_isFigure 13 = .ok (.goto 4, 3) := by decide +kernel
theorem dX3_isFigure_16 : decode cX3_isFigure 16 = .ok (.iconst 0, 1) := by decide +kernel
theorem dX3_isFigure_17 : decode cX3_isFigure 17 = .ok (.ireturn, 1) := by decide +kernel
theorem dX3_isWord_0 : decode cX3_isWord 0 = .ok (.aload_n 0, 1) := by decide +kernel
theorem dX3_isWord_1 : decode cX3_isWord 1 = .ok (.getfield 43, 3) := by decide +kernel
theorem dX3_isWord_4 : decode cX3_isWord 4 = .ok (.ifCond .ne 19, 3) := by decide +kernel
theorem dX3_isWord_7 : decode cX3_isWord 7 = .ok (.aload_n 0, 1) := by decide +kernel
theorem dX3_isWord_8 : decode cX3_isWord 8 = .ok (.getfield 37, 3) := by decide +kernel
theorem dX3_isWord_11 : decode cX3_isWord 11 = .ok (.aload_n 0, 1) := by decide +kernel
theorem dX3_isWord_12 : decode cX3_isWord 12 = .ok (.getfield 46, 3) := by decide +kernel
theorem dX3_isWord_15 : decode cX3_isWord 15 = .ok (.isub, 1) := by decide +kernel
theorem dX3_isWord_16 : decode cX3_isWord 16 = .ok (.aload_n 1, 1) := by decide +kernel
theorem dX3_isWord_17 : decode cX3_isWord 17 = .ok (.invokevirtual 69, 3) := by decide +kernel
theorem dX3_isWord_20 : decode cX3_isWord 20 = .ok (.if_icmp .eq 5, 3) := by decide +kernel
theorem dX3_isWord_23 : decode cX3_isWord 23 = .ok (.iconst 0, 1) := by decide +kernel
theorem dX3_isWord_24 : decode cX3_isWord 24 = .ok (.ireturn, 1) := by decide +kernel
theorem dX3_isWord_25 : decode cX3_isWord 25 = .ok (.iconst 0, 1) := by decide +kernel
theorem dX3_isWord_26 : decode cX3_isWord 26 = .ok (.istore_n 2, 1) := by decide +kernel
theorem dX3_isWord_27 : decode cX3_isWord 27 = .ok (.iload_n 2, 1) := by decide +kernel
theorem dX3_isWord_28 : decode cX3_isWord 28 = .ok (.aload_n 1, 1) := by decide +kernel
theorem dX3_isWord_29 : decode cX3_isWord 29 = .ok (.invokevirtual 69, 3) := by decide +kernel
theorem dX3_isWord_32 : decode cX3_isWord 32 = .ok (.if_icmp .ge 30, 3) := by decide +kernel
theorem dX3_isWord_35 : decode cX3_isWord 35 = .ok (.aload_n 0, 1) := by decide +kernel
theorem dX3_isWord_36 : decode cX3_isWord 36 = .ok (.getfield 9, 3) := by decide +kernel
theorem dX3_isWord_39 : decode cX3_isWord 39 = .ok (.aload_n 0, 1) := by decide +kernel
theorem dX3_isWord_40 : decode cX3_isWord 40 = .ok (.getfield 46, 3) := by decide +kernel
theorem dX3_isWord_43 : decode cX3_isWord 43 = .ok (.iload_n 2, 1) := by decide +kernel
theorem dX3_isWord_44 : decode cX3_isWord 44 = .ok (.iadd, 1) := by decide +kernel
theorem dX3_isWord_45 : decode cX3_isWord 45 = .ok (.iaload, 1) := by decide +kernel
theorem dX3_isWord_46 : decode cX3_isWord 46 = .ok (.aload_n 1, 1) := by decide +kernel
theorem dX3_isWord_47 : decode cX3_isWord 47 = .ok (.iload_n 2, 1) := by decide +kernel
theorem dX3_isWord_48 : decode cX3_isWord 48 = .ok (.invokevirtual 74, 3) := by decide +kernel
theorem dX3_isWord_51 : decode cX3_isWord 51 = .ok (.if_icmp .eq 5, 3) := by decide +kernel
theorem dX3_isWord_54 : decode cX3_isWord 54 = .ok (.iconst 0, 1) := by decide +kernel
theorem dX3_isWord_55 : decode cX3_isWord 55 = .ok (.ireturn, 1) := by decide +kernel
theorem dX3_isWord_56 : decode cX3_isWord 56 = .ok (.iinc 2 1, 3) := by decide +kernel
theorem dX3_isWord_59 : decode cX3_isWord 59 = .ok (.goto (-32), 3) := by decide +kernel
theorem dX3_isWord_62 : decode cX3_isWord 62 = .ok (.iconst 1, 1) := by decide +kernel
theorem dX3_isWord_63 : decode cX3_isWord 63 = .ok (.ireturn, 1) := by decide +kernel
theorem dX3_takeLine_0 : decode cX3_takeLine 0 = .ok (.aload_n 0, 1) := by decide +kernel
theorem dX3_takeLine_1 : decode cX3_takeLine 1 = .ok (.ldc 78, 2) := by decide +kernel
theorem dX3_takeLine_3 : decode cX3_takeLine 3 = .ok (.invokevirtual 80, 3) := by decide +kernel
theorem dX3_takeLine_6 : decode cX3_takeLine 6 = .ok (.ifCond .eq 10, 3) := by decide +kernel
theorem dX3_takeLine_9 : decode cX3_takeLine 9 = .ok (.aload_n 0, 1) := by decide +kernel
theorem dX3_takeLine_10 : decode cX3_takeLine 10 = .ok (.invokevirtual 84, 3) := by decide +kernel
theorem dX3_takeLine_13 : decode cX3_takeLine 13 = .ok (.goto 88, 3) := by decide +kernel
theorem dX3_takeLine_16 : decode cX3_takeLine 16 = .ok (.aload_n 0, 1) := by decide +kernel
theorem dX3_takeLine_17 : decode cX3_takeLine 17 = .ok (.ldc 87, 2) := by decide +kernel
theorem dX3_takeLine_19 : decode cX3_takeLine 19 = .ok (.invokevirtual 80, 3) := by decide +kernel
theorem dX3_takeLine_22 : decode cX3_takeLine 22 = .ok (.ifCond .eq 10, 3) := by decide +kernel
theorem dX3_takeLine_25 : decode cX3_takeLine 25 = .ok (.aload_n 0, 1) := by decide +kernel
theorem dX3_takeLine_26 : decode cX3_takeLine 26 = .ok (.invokevirtual 89, 3) := by decide +kernel
theorem dX3_takeLine_29 : decode cX3_takeLine 29 = .ok (.goto 72, 3) := by decide +kernel
theorem dX3_takeLine_32 : decode cX3_takeLine 32 = .ok (.aload_n 0, 1) := by decide +kernel
theorem dX3_takeLine_33 : decode cX3_takeLine 33 = .ok (.ldc 92, 2) := by decide +kernel
theorem dX3_takeLine_35 : decode cX3_takeLine 35 = .ok (.invokevirtual 80, 3) := by decide +kernel
theorem dX3_takeLine_38 : decode cX3_takeLine 38 = .ok (.ifCond .eq 10, 3) := by decide +kernel
theorem dX3_takeLine_41 : decode cX3_takeLine 41 = .ok (.aload_n 0, 1) := by decide +kernel
theorem dX3_takeLine_42 : decode cX3_takeLine 42 = .ok (.invokevirtual 94, 3) := by decide +kernel
theorem dX3_takeLine_45 : decode cX3_takeLine 45 = .ok (.goto 56, 3) := by decide +kernel
theorem dX3_takeLine_48 : decode cX3_takeLine 48 = .ok (.aload_n 0, 1) := by decide +kernel
theorem dX3_takeLine_49 : decode cX3_takeLine 49 = .ok (.ldc 97, 2) := by decide +kernel
theorem dX3_takeLine_51 : decode cX3_takeLine 51 = .ok (.invokevirtual 80, 3) := by decide +kernel
theorem dX3_takeLine_54 : decode cX3_takeLine 54 = .ok (.ifCond .eq 10, 3) := by decide +kernel
theorem dX3_takeLine_57 : decode cX3_takeLine 57 = .ok (.aload_n 0, 1) := by decide +kernel
theorem dX3_takeLine_58 : decode cX3_takeLine 58 = .ok (.invokevirtual 99, 3) := by decide +kernel
theorem dX3_takeLine_61 : decode cX3_takeLine 61 = .ok (.goto 40, 3) := by decide +kernel
theorem dX3_takeLine_64 : decode cX3_takeLine 64 = .ok (.aload_n 0, 1) := by decide +kernel
theorem dX3_takeLine_65 : decode cX3_takeLine 65 = .ok (.ldc 102, 2) := by decide +kernel
theorem dX3_takeLine_67 : decode cX3_takeLine 67 = .ok (.invokevirtual 80, 3) := by decide +kernel
theorem dX3_takeLine_70 : decode cX3_takeLine 70 = .ok (.ifCond .eq 10, 3) := by decide +kernel
theorem dX3_takeLine_73 : decode cX3_takeLine 73 = .ok (.aload_n 0, 1) := by decide +kernel
theorem dX3_takeLine_74 : decode cX3_takeLine 74 = .ok (.invokevirtual 104, 3) := by decide +kernel
theorem dX3_takeLine_77 : decode cX3_takeLine 77 = .ok (.goto 24, 3) := by decide +kernel
theorem dX3_takeLine_80 : decode cX3_takeLine 80 = .ok (.aload_n 0, 1) := by decide +kernel
theorem dX3_takeLine_81 : decode cX3_takeLine 81 = .ok (.ldc 107, 2) := by decide +kernel
theorem dX3_takeLine_83 : decode cX3_takeLine 83 = .ok (.invokevirtual 80, 3) := by decide +kernel
theorem dX3_takeLine_86 : decode cX3_takeLine 86 = .ok (.ifCond .eq 10, 3) := by decide +kernel
theorem dX3_takeLine_89 : decode cX3_takeLine 89 = .ok (.aload_n 0, 1) := by decide +kernel
theorem dX3_takeLine_90 : decode cX3_takeLine 90 = .ok (.invokevirtual 109, 3) := by decide +kernel
theorem dX3_takeLine_93 : decode cX3_takeLine 93 = .ok (.goto 8, 3) := by decide +kernel
theorem dX3_takeLine_96 : decode cX3_takeLine 96 = .ok (.aload_n 0, 1) := by decide +kernel
theorem dX3_takeLine_97 : decode cX3_takeLine 97 = .ok (.iconst 2, 1) := by decide +kernel
theorem dX3_takeLine_98 : decode cX3_takeLine 98 = .ok (.invokevirtual 62, 3) := by decide +kernel
theorem dX3_takeLine_101 : decode cX3_takeLine 101 = .ok (.aload_n 0, 1) := by decide +kernel
theorem dX3_takeLine_102 : decode cX3_takeLine 102 = .ok (.invokevirtual 40, 3) := by decide +kernel
theorem dX3_takeLine_105 : decode cX3_takeLine 105 = .ok (.aload_n 0, 1) := by decide +kernel
theorem dX3_takeLine_106 : decode cX3_takeLine 106 = .ok (.getfield 43, 3) := by decide +kernel
theorem dX3_takeLine_109 : decode cX3_takeLine 109 = .ok (.iconst 2, 1) := by decide +kernel
theorem dX3_takeLine_110 : decode cX3_takeLine 110 = .ok (.if_icmp .eq 8, 3) := by decide +kernel
theorem dX3_takeLine_113 : decode cX3_takeLine 113 = .ok (.aload_n 0, 1) := by decide +kernel
theorem dX3_takeLine_114 : decode cX3_takeLine 114 = .ok (.iconst 2, 1) := by decide +kernel
theorem dX3_takeLine_115 : decode cX3_takeLine 115 = .ok (.invokevirtual 62, 3) := by decide +kernel
theorem dX3_takeLine_118 : decode cX3_takeLine 118 = .ok (.return_, 1) := by decide +kernel
theorem dX3_takeLand_0 : decode cX3_takeLand 0 = .ok (.aload_n 0, 1) := by decide +kernel
theorem dX3_takeLand_1 : decode cX3_takeLand 1 = .ok (.getfield 19, 3) := by decide +kernel
theorem dX3_takeLand_4 : decode cX3_takeLand 4 = .ok (.getfield 112, 3) := by decide +kernel
theorem dX3_takeLand_7 : decode cX3_takeLand 7 = .ok (.iconst 4, 1) := by decide +kernel
theorem dX3_takeLand_8 : decode cX3_takeLand 8 = .ok (.if_icmp .lt 8, 3) := by decide +kernel
theorem dX3_takeLand_11 : decode cX3_takeLand 11 = .ok (.aload_n 0, 1) := by decide +kernel
theorem dX3_takeLand_12 : decode cX3_takeLand 12 = .ok (.iconst 5, 1) := by decide +kernel
theorem dX3_takeLand_13 : decode cX3_takeLand 13 = .ok (.invokevirtual 62, 3) := by decide +kernel
theorem dX3_takeLand_16 : decode cX3_takeLand 16 = .ok (.aload_n 0, 1) := by decide +kernel
theorem dX3_takeLand_17 : decode cX3_takeLand 17 = .ok (.iconst 0, 1) := by decide +kernel
theorem dX3_takeLand_18 : decode cX3_takeLand 18 = .ok (.bipush 9, 2) := by decide +kernel
theorem dX3_takeLand_20 : decode cX3_takeLand 20 = .ok (.invokevirtual 115, 3) := by decide +kernel
theorem dX3_takeLand_23 : decode cX3_takeLand 23 = .ok (.istore_n 1, 1) := by decide +kernel
theorem dX3_takeLand_24 : decode cX3_takeLand 24 = .ok (.aload_n 0, 1) := by decide +kernel
theorem dX3_takeLand_25 : decode cX3_takeLand 25 = .ok (.iconst 0, 1) := by decide +kernel
theorem dX3_takeLand_26 : decode cX3_takeLand 26 = .ok (.bipush 9, 2) := by decide +kernel
theorem dX3_takeLand_28 : decode cX3_takeLand 28 = .ok (.invokevirtual 115, 3) := by decide +kernel
theorem dX3_takeLand_31 : decode cX3_takeLand 31 = .ok (.istore_n 2, 1) := by decide +kernel
theorem dX3_takeLand_32 : decode cX3_takeLand 32 = .ok (.aload_n 0, 1) := by decide +kernel
theorem dX3_takeLand_33 : decode cX3_takeLand 33 = .ok (.getfield 28, 3) := by decide +kernel
theorem dX3_takeLand_36 : decode cX3_takeLand 36 = .ok (.ifCond .ne 12, 3) := by decide +kernel
theorem dX3_takeLand_39 : decode cX3_takeLand 39 = .ok (.aload_n 0, 1) := by decide +kernel
theorem dX3_takeLand_40 : decode cX3_takeLand 40 = .ok (.getfield 19, 3) := by decide +kernel
theorem dX3_takeLand_43 : decode cX3_takeLand 43 = .ok (.iload_n 1, 1) := by decide +kernel
theorem dX3_takeLand_44 : decode cX3_takeLand 44 = .ok (.iload_n 2, 1) := by decide +kernel
theorem dX3_takeLand_45 : decode cX3_takeLand 45 = .ok (.invokevirtual 119, 3) := by decide +kernel
theorem dX3_takeLand_48 : decode cX3_takeLand 48 = .ok (.return_, 1) := by decide +kernel
theorem dX3_takeDream_0 : decode cX3_takeDream 0 = .ok (.aload_n 0, 1) := by decide +kernel
theorem dX3_takeDream_1 : decode cX3_takeDream 1 = .ok (.getfield 19, 3) := by decide +kernel
theorem dX3_takeDream_4 : decode cX3_takeDream 4 = .ok (.getfield 123, 3) := by decide +kernel
theorem dX3_takeDream_7 : decode cX3_takeDream 7 = .ok (.iconst 4, 1) := by decide +kernel
theorem dX3_takeDream_8 : decode cX3_takeDream 8 = .ok (.if_icmp .lt 8, 3) := by decide +kernel
theorem dX3_takeDream_11 : decode cX3_takeDream 11 = .ok (.aload_n 0, 1) := by decide +kernel
theorem dX3_takeDream_12 : decode cX3_takeDream 12 = .ok (.iconst 5, 1) := by decide +kernel
theorem dX3_takeDream_13 : decode cX3_takeDream 13 = .ok (.invokevirtual 62, 3) := by decide +kernel
theorem dX3_takeDream_16 : decode cX3_takeDream 16 = .ok (.aload_n 0, 1) := by decide +kernel
theorem dX3_takeDream_17 : decode cX3_takeDream 17 = .ok (.invokevirtual 126, 3) := by decide +kernel
theorem dX3_takeDream_20 : decode cX3_takeDream 20 = .ok (.istore_n 1, 1) := by decide +kernel
theorem dX3_takeDream_21 : decode cX3_takeDream 21 = .ok (.aload_n 0, 1) := by decide +kernel
theorem dX3_takeDream_22 : decode cX3_takeDream 22 = .ok (.iconst 1, 1) := by decide +kernel
theorem dX3_takeDream_23 : decode cX3_takeDream 23 = .ok (.bipush 9, 2) := by decide +kernel
theorem dX3_takeDream_25 : decode cX3_takeDream 25 = .ok (.invokevirtual 115, 3) := by decide +kernel
theorem dX3_takeDream_28 : decode cX3_takeDream 28 = .ok (.istore_n 2, 1) := by decide +kernel
theorem dX3_takeDream_29 : decode cX3_takeDream 29 = .ok (.aload_n 0, 1) := by decide +kernel
theorem dX3_takeDream_30 : decode cX3_takeDream 30 = .ok (.getfield 28, 3) := by decide +kernel
theorem dX3_takeDream_33 : decode cX3_takeDream 33 = .ok (.ifCond .ne 12, 3) := by decide +kernel
theorem dX3_takeDream_36 : decode cX3_takeDream 36 = .ok (.aload_n 0, 1) := by decide +kernel
theorem dX3_takeDream_37 : decode cX3_takeDream 37 = .ok (.getfield 19, 3) := by decide +kernel
theorem dX3_takeDream_40 : decode cX3_takeDream 40 = .ok (.iload_n 1, 1) := by decide +kernel
theorem dX3_takeDream_41 : decode cX3_takeDream 41 = .ok (.iload_n 2, 1) := by decide +kernel
theorem dX3_takeDream_42 : decode cX3_takeDream 42 = .ok (.invokevirtual 129, 3) := by decide +kernel
theorem dX3_takeDream_45 : decode cX3_takeDream 45 = .ok (.return_, 1) := by decide +kernel
theorem dX3_takePeople_0 : decode cX3_takePeople 0 = .ok (.aload_n 0, 1) := by decide +kernel
theorem dX3_takePeople_1 : decode cX3_takePeople 1 = .ok (.iconst 0, 1) := by decide +kernel
theorem dX3_takePeople_2 : decode cX3_takePeople 2 = .ok (.invokevirtual 132, 3) := by decide +kernel
theorem dX3_takePeople_5 : decode cX3_takePeople 5 = .ok (.aload_n 0, 1) := by decide +kernel
theorem dX3_takePeople_6 : decode cX3_takePeople 6 = .ok (.getfield 19, 3) := by decide +kernel
theorem dX3_takePeople_9 : decode cX3_takePeople 9 = .ok (.aload_n 0, 1) := by decide +kernel
theorem dX3_takePeople_10 : decode cX3_takePeople 10 = .ok (.iconst 0, 1) := by decide +kernel
theorem dX3_takePeople_11 : decode cX3_takePeople 11 = .ok (.bipush 40, 2) := by decide +kernel
theorem dX3_takePeople_13 : decode cX3_takePeople 13 = .ok (.invokevirtual 115, 3) := by decide +kernel
theorem dX3_takePeople_16 : decode cX3_takePeople 16 = .ok (.putfield 135, 3) := by decide +kernel
theorem dX3_takePeople_19 : decode cX3_takePeople 19 = .ok (.aload_n 0, 1) := by decide +kernel
theorem dX3_takePeople_20 : decode cX3_takePeople 20 = .ok (.getfield 19, 3) := by decide +kernel
theorem dX3_takePeople_23 : decode cX3_takePeople 23 = .ok (.aload_n 0, 1) := by decide +kernel
theorem dX3_takePeople_24 : decode cX3_takePeople 24 = .ok (.iconst 0, 1) := by decide +kernel
theorem dX3_takePeople_25 : decode cX3_takePeople 25 = .ok (.bipush 20, 2) := by decide +kernel
theorem dX3_takePeople_27 : decode cX3_takePeople 27 = .ok (.invokevirtual 115, 3) := by decide +kernel
theorem dX3_takePeople_30 : decode cX3_takePeople 30 = .ok (.putfield 138, 3) := by decide +kernel
theorem dX3_takePeople_33 : decode cX3_takePeople 33 = .ok (.return_, 1) := by decide +kernel
theorem dX3_takeGranary_0 : decode cX3_takeGranary 0 = .ok (.aload_n 0, 1) := by decide +kernel
theorem dX3_takeGranary_1 : decode cX3_takeGranary 1 = .ok (.iconst 1, 1) := by decide +kernel
theorem dX3_takeGranary_2 : decode cX3_takeGranary 2 = .ok (.invokevirtual 132, 3) := by decide +kernel
theorem dX3_takeGranary_5 : decode cX3_takeGranary 5 = .ok (.aload_n 0, 1) := by decide +kernel
theorem dX3_takeGranary_6 : decode cX3_takeGranary 6 = .ok (.getfield 19, 3) := by decide +kernel
theorem dX3_takeGranary_9 : decode cX3_takeGranary 9 = .ok (.aload_n 0, 1) := by decide +kernel
theorem dX3_takeGranary_10 : decode cX3_takeGranary 10 = .ok (.iconst 0, 1) := by decide +kernel
theorem dX3_takeGranary_11 : decode cX3_takeGranary 11 = .ok (.bipush 40, 2) := by decide +kernel
theorem dX3_takeGranary_13 : decode cX3_takeGranary 13 = .ok (.invokevirtual 115, 3) := by decide +kernel
theorem dX3_takeGranary_16 : decode cX3_takeGranary 16 = .ok (.putfield 141, 3) := by decide +kernel
theorem dX3_takeGranary_19 : decode cX3_takeGranary 19 = .ok (.aload_n 0, 1) := by decide +kernel
theorem dX3_takeGranary_20 : decode cX3_takeGranary 20 = .ok (.getfield 19, 3) := by decide +kernel
theorem dX3_takeGranary_23 : decode cX3_takeGranary 23 = .ok (.aload_n 0, 1) := by decide +kernel
theorem dX3_takeGranary_24 : decode cX3_takeGranary 24 = .ok (.iconst 0, 1) := by decide +kernel
theorem dX3_takeGranary_25 : decode cX3_takeGranary 25 = .ok (.bipush 9, 2) := by decide +kernel
theorem dX3_takeGranary_27 : decode cX3_takeGranary 27 = .ok (.invokevirtual 115, 3) := by decide +kernel
theorem dX3_takeGranary_30 : decode cX3_takeGranary 30 = .ok (.putfield 144, 3) := by decide +kernel
theorem dX3_takeGranary_33 : decode cX3_takeGranary 33 = .ok (.aload_n 0, 1) := by decide +kernel
theorem dX3_takeGranary_34 : decode cX3_takeGranary 34 = .ok (.getfield 19, 3) := by decide +kernel
theorem dX3_takeGranary_37 : decode cX3_takeGranary 37 = .ok (.getfield 144, 3) := by decide +kernel
theorem dX3_takeGranary_40 : decode cX3_takeGranary 40 = .ok (.invokestatic 147, 3) := by decide +kernel
theorem dX3_takeGranary_43 : decode cX3_takeGranary 43 = .ok (.ifCond .ne 8, 3) := by decide +kernel
theorem dX3_takeGranary_46 : decode cX3_takeGranary 46 = .ok (.aload_n 0, 1) := by decide +kernel
theorem dX3_takeGranary_47 : decode cX3_takeGranary 47 = .ok (.iconst 3, 1) := by decide +kernel
theorem dX3_takeGranary_48 : decode cX3_takeGranary 48 = .ok (.invokevirtual 62, 3) := by decide +kernel
theorem dX3_takeGranary_51 : decode cX3_takeGranary 51 = .ok (.aload_n 0, 1) := by decide +kernel
theorem dX3_takeGranary_52 : decode cX3_takeGranary 52 = .ok (.getfield 19, 3) := by decide +kernel
theorem dX3_takeGranary_55 : decode cX3_takeGranary 55 = .ok (.aload_n 0, 1) := by decide +kernel
theorem dX3_takeGranary_56 : decode cX3_takeGranary 56 = .ok (.iconst 0, 1) := by decide +kernel
theorem dX3_takeGranary_57 : decode cX3_takeGranary 57 = .ok (.aload_n 0, 1) := by decide +kernel
theorem dX3_takeGranary_58 : decode cX3_takeGranary 58 = .ok (.getfield 19, 3) := by decide +kernel
theorem dX3_takeGranary_61 : decode cX3_takeGranary 61 = .ok (.getfield 141, 3) := by decide +kernel
theorem dX3_takeGranary_64 : decode cX3_takeGranary 64 = .ok (.invokevirtual 115, 3) := by decide +kernel
theorem dX3_takeGranary_67 : decode cX3_takeGranary 67 = .ok (.putfield 150, 3) := by decide +kernel
theorem dX3_takeGranary_70 : decode cX3_takeGranary 70 = .ok (.return_, 1) := by decide +kernel
theorem dX3_takePrice_0 : decode cX3_takePrice 0 = .ok (.aload_n 0, 1) := by decide +kernel
theorem dX3_takePrice_1 : decode cX3_takePrice 1 = .ok (.iconst 2, 1) := by decide +kernel
theorem dX3_takePrice_2 : decode cX3_takePrice 2 = .ok (.invokevirtual 132, 3) := by decide +kernel
theorem dX3_takePrice_5 : decode cX3_takePrice 5 = .ok (.aload_n 0, 1) := by decide +kernel
theorem dX3_takePrice_6 : decode cX3_takePrice 6 = .ok (.getfield 19, 3) := by decide +kernel
theorem dX3_takePrice_9 : decode cX3_takePrice 9 = .ok (.aload_n 0, 1) := by decide +kernel
theorem dX3_takePrice_10 : decode cX3_takePrice 10 = .ok (.iconst 0, 1) := by decide +kernel
theorem dX3_takePrice_11 : decode cX3_takePrice 11 = .ok (.bipush 9, 2) := by decide +kernel
theorem dX3_takePrice_13 : decode cX3_takePrice 13 = .ok (.invokevirtual 115, 3) := by decide +kernel
theorem dX3_takePrice_16 : decode cX3_takePrice 16 = .ok (.putfield 153, 3) := by decide +kernel
theorem dX3_takePrice_19 : decode cX3_takePrice 19 = .ok (.aload_n 0, 1) := by decide +kernel
theorem dX3_takePrice_20 : decode cX3_takePrice 20 = .ok (.getfield 19, 3) := by decide +kernel
theorem dX3_takePrice_23 : decode cX3_takePrice 23 = .ok (.aload_n 0, 1) := by decide +kernel
theorem dX3_takePrice_24 : decode cX3_takePrice 24 = .ok (.iconst 0, 1) := by decide +kernel
theorem dX3_takePrice_25 : decode cX3_takePrice 25 = .ok (.bipush 9, 2) := by decide +kernel
theorem dX3_takePrice_27 : decode cX3_takePrice 27 = .ok (.invokevirtual 115, 3) := by decide +kernel
theorem dX3_takePrice_30 : decode cX3_takePrice 30 = .ok (.putfield 156, 3) := by decide +kernel
theorem dX3_takePrice_33 : decode cX3_takePrice 33 = .ok (.return_, 1) := by decide +kernel
theorem dX3_takeSteward_0 : decode cX3_takeSteward 0 = .ok (.aload_n 0, 1) := by decide +kernel
theorem dX3_takeSteward_1 : decode cX3_takeSteward 1 = .ok (.iconst 3, 1) := by decide +kernel
theorem dX3_takeSteward_2 : decode cX3_takeSteward 2 = .ok (.invokevirtual 132, 3) := by decide +kernel
theorem dX3_takeSteward_5 : decode cX3_takeSteward 5 = .ok (.aload_n 0, 1) := by decide +kernel
theorem dX3_takeSteward_6 : decode cX3_takeSteward 6 = .ok (.invokevirtual 159, 3) := by decide +kernel
theorem dX3_takeSteward_9 : decode cX3_takeSteward 9 = .ok (.istore_n 1, 1) := by decide +kernel
theorem dX3_takeSteward_10 : decode cX3_takeSteward 10 = .ok (.aload_n 0, 1) := by decide +kernel
theorem dX3_takeSteward_11 : decode cX3_takeSteward 11 = .ok (.iconst 0, 1) := by decide +kernel
theorem dX3_takeSteward_12 : decode cX3_takeSteward 12 = .ok (.bipush 9, 2) := by decide +kernel
theorem dX3_takeSteward_14 : decode cX3_takeSteward 14 = .ok (.invokevirtual 115, 3) := by decide +kernel
theorem dX3_takeSteward_17 : decode cX3_takeSteward 17 = .ok (.istore_n 2, 1) := by decide +kernel
theorem dX3_takeSteward_18 : decode cX3_takeSteward 18 = .ok (.aload_n 0, 1) := by decide +kernel
theorem dX3_takeSteward_19 : decode cX3_takeSteward 19 = .ok (.getfield 19, 3) := by decide +kernel
theorem dX3_takeSteward_22 : decode cX3_takeSteward 22 = .ok (.iload_n 1, 1) := by decide +kernel
theorem dX3_takeSteward_23 : decode cX3_takeSteward 23 = .ok (.iload_n 2, 1) := by decide +kernel
theorem dX3_takeSteward_24 : decode cX3_takeSteward 24 = .ok (.invokevirtual 162, 3) := by decide +kernel
theorem dX3_takeSteward_27 : decode cX3_takeSteward 27 = .ok (.return_, 1) := by decide +kernel
theorem dX3_markOnce_0 : decode cX3_markOnce 0 = .ok (.aload_n 0, 1) := by decide +kernel
theorem dX3_markOnce_1 : decode cX3_markOnce 1 = .ok (.getfield 34, 3) := by decide +kernel
theorem dX3_markOnce_4 : decode cX3_markOnce 4 = .ok (.iload_n 1, 1) := by decide +kernel
theorem dX3_markOnce_5 : decode cX3_markOnce 5 = .ok (.invokestatic 165, 3) := by decide +kernel
theorem dX3_markOnce_8 : decode cX3_markOnce 8 = .ok (.ifCond .eq 8, 3) := by decide +kernel
theorem dX3_markOnce_11 : decode cX3_markOnce 11 = .ok (.aload_n 0, 1) := by decide +kernel
theorem dX3_markOnce_12 : decode cX3_markOnce 12 = .ok (.iconst 4, 1) := by decide +kernel
theorem dX3_markOnce_13 : decode cX3_markOnce 13 = .ok (.invokevirtual 62, 3) := by decide +kernel
theorem dX3_markOnce_16 : decode cX3_markOnce 16 = .ok (.aload_n 0, 1) := by decide +kernel
theorem dX3_markOnce_17 : decode cX3_markOnce 17 = .ok (.dup, 1) := by decide +kernel
theorem dX3_markOnce_18 : decode cX3_markOnce 18 = .ok (.getfield 34, 3) := by decide +kernel
theorem dX3_markOnce_21 : decode cX3_markOnce 21 = .ok (.iconst 1, 1) := by decide +kernel
theorem dX3_markOnce_22 : decode cX3_markOnce 22 = .ok (.iload_n 1, 1) := by decide +kernel
theorem dX3_markOnce_23 : decode cX3_markOnce 23 = .ok (.ishl, 1) := by decide +kernel
theorem dX3_markOnce_24 : decode cX3_markOnce 24 = .ok (.ior, 1) := by decide +kernel
theorem dX3_markOnce_25 : decode cX3_markOnce 25 = .ok (.putfield 34, 3) := by decide +kernel
theorem dX3_markOnce_28 : decode cX3_markOnce 28 = .ok (.return_, 1) := by decide +kernel
theorem dX3_takeWithin_0 : decode cX3_takeWithin 0 = .ok (.aload_n 0, 1) := by decide +kernel
theorem dX3_takeWithin_1 : decode cX3_takeWithin 1 = .ok (.invokevirtual 40, 3) := by decide +kernel
theorem dX3_takeWithin_4 : decode cX3_takeWithin 4 = .ok (.aload_n 0, 1) := by decide +kernel
theorem dX3_takeWithin_5 : decode cX3_takeWithin 5 = .ok (.getfield 28, 3) := by decide +kernel
theorem dX3_takeWithin_8 : decode cX3_takeWithin 8 = .ok (.ifCond .eq 5, 3) := by decide +kernel
theorem dX3_takeWithin_11 : decode cX3_takeWithin 11 = .ok (.iconst 0, 1) := by decide +kernel
theorem dX3_takeWithin_12 : decode cX3_takeWithin 12 = .ok (.ireturn, 1) := by decide +kernel
theorem dX3_takeWithin_13 : decode cX3_takeWithin 13 = .ok (.aload_n 0, 1) := by decide +kernel
theorem dX3_takeWithin_14 : decode cX3_takeWithin 14 = .ok (.getfield 43, 3) := by decide +kernel
theorem dX3_takeWithin_17 : decode cX3_takeWithin 17 = .ok (.iconst 1, 1) := by decide +kernel
theorem dX3_takeWithin_18 : decode cX3_takeWithin 18 = .ok (.if_icmp .eq 10, 3) := by decide +kernel
theorem dX3_takeWithin_21 : decode cX3_takeWithin 21 = .ok (.aload_n 0, 1) := by decide +kernel
theorem dX3_takeWithin_22 : decode cX3_takeWithin 22 = .ok (.iconst 2, 1) := by decide +kernel
theorem dX3_takeWithin_23 : decode cX3_takeWithin 23 = .ok (.invokevirtual 62, 3) := by decide +kernel
theorem dX3_takeWithin_26 : decode cX3_takeWithin 26 = .ok (.iconst 0, 1) := by decide +kernel
theorem dX3_takeWithin_27 : decode cX3_takeWithin 27 = .ok (.ireturn, 1) := by decide +kernel
theorem dX3_takeWithin_28 : decode cX3_takeWithin 28 = .ok (.aload_n 0, 1) := by decide +kernel
theorem dX3_takeWithin_29 : decode cX3_takeWithin 29 = .ok (.getfield 66, 3) := by decide +kernel
theorem dX3_takeWithin_32 : decode cX3_takeWithin 32 = .ok (.iload_n 1, 1) := by decide +kernel
theorem dX3_takeWithin_33 : decode cX3_takeWithin 33 = .ok (.iload_n 2, 1) := by decide +kernel
theorem dX3_takeWithin_34 : decode cX3_takeWithin 34 = .ok (.invokestatic 169, 3) := by decide +kernel
theorem dX3_takeWithin_37 : decode cX3_takeWithin 37 = .ok (.ifCond .ne 10, 3) := by decide +kernel
theorem dX3_takeWithin_40 : decode cX3_takeWithin 40 = .ok (.aload_n 0, 1) := by decide +kernel
theorem dX3_takeWithin_41 : decode cX3_takeWithin 41 = .ok (.iconst 3, 1) := by decide +kernel
theorem dX3_takeWithin_42 : decode cX3_takeWithin 42 = .ok (.invokevirtual 62, 3) := by decide +kernel
theorem dX3_takeWithin_45 : decode cX3_takeWithin 45 = .ok (.iconst 0, 1) := by decide +kernel
theorem dX3_takeWithin_46 : decode cX3_takeWithin 46 = .ok (.ireturn, 1) := by decide +kernel
theorem dX3_takeWithin_47 : decode cX3_takeWithin 47 = .ok (.aload_n 0, 1) := by decide +kernel
theorem dX3_takeWithin_48 : decode cX3_takeWithin 48 = .ok (.getfield 66, 3) := by decide +kernel
theorem dX3_takeWithin_51 : decode cX3_takeWithin 51 = .ok (.ireturn, 1) := by decide +kernel
theorem dX3_takeRow_0 : decode cX3_takeRow 0 = .ok (.aload_n 0, 1) := by decide +kernel
theorem dX3_takeRow_1 : decode cX3_takeRow 1 = .ok (.invokevirtual 40, 3) := by decide +kernel
theorem dX3_takeRow_4 : decode cX3_takeRow 4 = .ok (.aload_n 0, 1) := by decide +kernel
theorem dX3_takeRow_5 : decode cX3_takeRow 5 = .ok (.getfield 28, 3) := by decide +kernel
theorem dX3_takeRow_8 : decode cX3_takeRow 8 = .ok (.ifCond .eq 5, 3) := by decide +kernel
theorem dX3_takeRow_11 : decode cX3_takeRow 11 = .ok (.iconst 0, 1) := by decide +kernel
theorem dX3_takeRow_12 : decode cX3_takeRow 12 = .ok (.ireturn, 1) := by decide +kernel
theorem dX3_takeRow_13 : decode cX3_takeRow 13 = .ok (.aload_n 0, 1) := by decide +kernel
theorem dX3_takeRow_14 : decode cX3_takeRow 14 = .ok (.getfield 43, 3) := by decide +kernel
theorem dX3_takeRow_17 : decode cX3_takeRow 17 = .ok (.ifCond .eq 10, 3) := by decide +kernel
theorem dX3_takeRow_20 : decode cX3_takeRow 20 = .ok (.aload_n 0, 1) := by decide +kernel
theorem dX3_takeRow_21 : decode cX3_takeRow 21 = .ok (.iconst 2, 1) := by decide +kernel
theorem dX3_takeRow_22 : decode cX3_takeRow 22 = .ok (.invokevirtual 62, 3) := by decide +kernel
theorem dX3_takeRow_25 : decode cX3_takeRow 25 = .ok (.iconst 0, 1) := by decide +kernel
theorem dX3_takeRow_26 : decode cX3_takeRow 26 = .ok (.ireturn, 1) := by decide +kernel
theorem dX3_takeRow_27 : decode cX3_takeRow 27 = .ok (.aload_n 0, 1) := by decide +kernel
theorem dX3_takeRow_28 : decode cX3_takeRow 28 = .ok (.getfield 37, 3) := by decide +kernel
theorem dX3_takeRow_31 : decode cX3_takeRow 31 = .ok (.aload_n 0, 1) := by decide +kernel
theorem dX3_takeRow_32 : decode cX3_takeRow 32 = .ok (.getfield 46, 3) := by decide +kernel
theorem dX3_takeRow_35 : decode cX3_takeRow 35 = .ok (.isub, 1) := by decide +kernel
theorem dX3_takeRow_36 : decode cX3_takeRow 36 = .ok (.bipush 8, 2) := by decide +kernel
theorem dX3_takeRow_38 : decode cX3_takeRow 38 = .ok (.if_icmp .le 10, 3) := by decide +kernel
theorem dX3_takeRow_41 : decode cX3_takeRow 41 = .ok (.aload_n 0, 1) := by decide +kernel
theorem dX3_takeRow_42 : decode cX3_takeRow 42 = .ok (.iconst 3, 1) := by decide +kernel
theorem dX3_takeRow_43 : decode cX3_takeRow 43 = .ok (.invokevirtual 62, 3) := by decide +kernel
theorem dX3_takeRow_46 : decode cX3_takeRow 46 = .ok (.iconst 0, 1) := by decide +kernel
theorem dX3_takeRow_47 : decode cX3_takeRow 47 = .ok (.ireturn, 1) := by decide +kernel
theorem dX3_takeRow_48 : decode cX3_takeRow 48 = .ok (.iconst 0, 1) := by decide +kernel
theorem dX3_takeRow_49 : decode cX3_takeRow 49 = .ok (.istore_n 1, 1) := by decide +kernel
theorem dX3_takeRow_50 : decode cX3_takeRow 50 = .ok (.iconst 0, 1) := by decide +kernel
theorem dX3_takeRow_51 : decode cX3_takeRow 51 = .ok (.istore_n 2, 1) := by decide +kernel
theorem dX3_takeRow_52 : decode cX3_takeRow 52 = .ok (.iload_n 2, 1) := by decide +kernel
theorem dX3_takeRow_53 : decode cX3_takeRow 53 = .ok (.aload_n 0, 1) := by decide +kernel
theorem dX3_takeRow_54 : decode cX3_takeRow 54 = .ok (.getfield 37, 3) := by decide +kernel
theorem dX3_takeRow_57 : decode cX3_takeRow 57 = .ok (.aload_n 0, 1) := by decide +kernel
theorem dX3_takeRow_58 : decode cX3_takeRow 58 = .ok (.getfield 46, 3) := by decide +kernel
theorem dX3_takeRow_61 : decode cX3_takeRow 61 = .ok (.isub, 1) := by decide +kernel
theorem dX3_takeRow_62 : decode cX3_takeRow 62 = .ok (.if_icmp .ge 49, 3) := by decide +kernel
theorem dX3_takeRow_65 : decode cX3_takeRow 65 = .ok (.aload_n 0, 1) := by decide +kernel
theorem dX3_takeRow_66 : decode cX3_takeRow 66 = .ok (.getfield 9, 3) := by decide +kernel
theorem dX3_takeRow_69 : decode cX3_takeRow 69 = .ok (.aload_n 0, 1) := by decide +kernel
theorem dX3_takeRow_70 : decode cX3_takeRow 70 = .ok (.getfield 46, 3) := by decide +kernel
theorem dX3_takeRow_73 : decode cX3_takeRow 73 = .ok (.iload_n 2, 1) := by decide +kernel
theorem dX3_takeRow_74 : decode cX3_takeRow 74 = .ok (.iadd, 1) := by decide +kernel
theorem dX3_takeRow_75 : decode cX3_takeRow 75 = .ok (.iaload, 1) := by decide +kernel
theorem dX3_takeRow_76 : decode cX3_takeRow 76 = .ok (.istore_n 3, 1) := by decide +kernel
theorem dX3_takeRow_77 : decode cX3_takeRow 77 = .ok (.iload_n 3, 1) := by decide +kernel
theorem dX3_takeRow_78 : decode cX3_takeRow 78 = .ok (.bipush 102, 2) := by decide +kernel
theorem dX3_takeRow_80 : decode cX3_takeRow 80 = .ok (.if_icmp .ne 12, 3) := by decide +kernel
theorem dX3_takeRow_83 : decode cX3_takeRow 83 = .ok (.iload_n 1, 1) := by decide +kernel
theorem dX3_takeRow_84 : decode cX3_takeRow 84 = .ok (.iconst 1, 1) := by decide +kernel
theorem dX3_takeRow_85 : decode cX3_takeRow 85 = .ok (.iload_n 2, 1) := by decide +kernel
theorem dX3_takeRow_86 : decode cX3_takeRow 86 = .ok (.ishl, 1) := by decide +kernel
theorem dX3_takeRow_87 : decode cX3_takeRow 87 = .ok (.ior, 1) := by decide +kernel
theorem dX3_takeRow_88 : decode cX3_takeRow 88 = .ok (.istore_n 1, 1) := by decide +kernel
theorem dX3_takeRow_89 : decode cX3_takeRow 89 = .ok (.goto 16, 3) := by decide +kernel
theorem dX3_takeRow_92 : decode cX3_takeRow 92 = .ok (.iload_n 3, 1) := by decide +kernel
theorem dX3_takeRow_93 : decode cX3_takeRow 93 = .ok (.bipush 108, 2) := by decide +kernel
theorem dX3_takeRow_95 : decode cX3_takeRow 95 = .ok (.if_icmp .eq 10, 3) := by decide +kernel
theorem dX3_takeRow_98 : decode cX3_takeRow 98 = .ok (.aload_n 0, 1) := by decide +kernel
theorem dX3_takeRow_99 : decode cX3_takeRow 99 = .ok (.iconst 3, 1) := by decide +kernel
theorem dX3_takeRow_100 : decode cX3_takeRow 100 = .ok (.invokevirtual 62, 3) := by decide +kernel
theorem dX3_takeRow_103 : decode cX3_takeRow 103 = .ok (.iconst 0, 1) := by decide +kernel
theorem dX3_takeRow_104 : decode cX3_takeRow 104 = .ok (.ireturn, 1) := by decide +kernel
theorem dX3_takeRow_105 : decode cX3_takeRow 105 = .ok (.iinc 2 1, 3) := by decide +kernel
theorem dX3_takeRow_108 : decode cX3_takeRow 108 = .ok (.goto (-56), 3) := by decide +kernel
theorem dX3_takeRow_111 : decode cX3_takeRow 111 = .ok (.iload_n 1, 1) := by decide +kernel
theorem dX3_takeRow_112 : decode cX3_takeRow 112 = .ok (.ireturn, 1) := by decide +kernel
theorem dX3_takeKind_0 : decode cX3_takeKind 0 = .ok (.aload_n 0, 1) := by decide +kernel
theorem dX3_takeKind_1 : decode cX3_takeKind 1 = .ok (.invokevirtual 40, 3) := by decide +kernel
theorem dX3_takeKind_4 : decode cX3_takeKind 4 = .ok (.aload_n 0, 1) := by decide +kernel
theorem dX3_takeKind_5 : decode cX3_takeKind 5 = .ok (.ldc 173, 2) := by decide +kernel
theorem dX3_takeKind_7 : decode cX3_takeKind 7 = .ok (.invokevirtual 80, 3) := by decide +kernel
theorem dX3_takeKind_10 : decode cX3_takeKind 10 = .ok (.ifCond .eq 5, 3) := by decide +kernel
theorem dX3_takeKind_13 : decode cX3_takeKind 13 = .ok (.iconst 0, 1) := by decide +kernel
theorem dX3_takeKind_14 : decode cX3_takeKind 14 = .ok (.ireturn, 1) := by decide +kernel
theorem dX3_takeKind_15 : decode cX3_takeKind 15 = .ok (.aload_n 0, 1) := by decide +kernel
theorem dX3_takeKind_16 : decode cX3_takeKind 16 = .ok (.ldc 175, 2) := by decide +kernel
theorem dX3_takeKind_18 : decode cX3_takeKind 18 = .ok (.invokevirtual 80, 3) := by decide +kernel
theorem dX3_takeKind_21 : decode cX3_takeKind 21 = .ok (.ifCond .eq 5, 3) := by decide +kernel
theorem dX3_takeKind_24 : decode cX3_takeKind 24 = .ok (.iconst 1, 1) := by decide +kernel
theorem dX3_takeKind_25 : decode cX3_takeKind 25 = .ok (.ireturn, 1) := by decide +kernel
theorem dX3_takeKind_26 : decode cX3_takeKind 26 = .ok (.aload_n 0, 1) := by decide +kernel
theorem dX3_takeKind_27 : decode cX3_takeKind 27 = .ok (.ldc 177, 2) := by decide +kernel
theorem dX3_takeKind_29 : decode cX3_takeKind 29 = .ok (.invokevirtual 80, 3) := by decide +kernel
theorem dX3_takeKind_32 : decode cX3_takeKind 32 = .ok (.ifCond .eq 5, 3) := by decide +kernel
theorem dX3_takeKind_35 : decode cX3_takeKind 35 = .ok (.iconst 2, 1) := by decide +kernel
theorem dX3_takeKind_36 : decode cX3_takeKind 36 = .ok (.ireturn, 1) := by decide +kernel
theorem dX3_takeKind_37 : decode cX3_takeKind 37 = .ok (.aload_n 0, 1) := by decide +kernel
theorem dX3_takeKind_38 : decode cX3_takeKind 38 = .ok (.ldc 179, 2) := by decide +kernel
theorem dX3_takeKind_40 : decode cX3_takeKind 40 = .ok (.invokevirtual 80, 3) := by decide +kernel
theorem dX3_takeKind_43 : decode cX3_takeKind 43 = .ok (.ifCond .eq 5, 3) := by decide +kernel
theorem dX3_takeKind_46 : decode cX3_takeKind 46 = .ok (.iconst 3, 1) := by decide +kernel
theorem dX3_takeKind_47 : decode cX3_takeKind 47 = .ok (.ireturn, 1) := by decide +kernel
theorem dX3_takeKind_48 : decode cX3_takeKind 48 = .ok (.aload_n 0, 1) := by decide +kernel
theorem dX3_takeKind_49 : decode cX3_takeKind 49 = .ok (.ldc 181, 2) := by decide +kernel
theorem dX3_takeKind_51 : decode cX3_takeKind 51 = .ok (.invokevirtual 80, 3) := by decide +kernel
theorem dX3_takeKind_54 : decode cX3_takeKind 54 = .ok (.ifCond .eq 5, 3) := by decide +kernel
theorem dX3_takeKind_57 : decode cX3_takeKind 57 = .ok (.iconst 4, 1) := by decide +kernel
theorem dX3_takeKind_58 : decode cX3_takeKind 58 = .ok (.ireturn, 1) := by decide +kernel
theorem dX3_takeKind_59 : decode cX3_takeKind 59 = .ok (.aload_n 0, 1) := by decide +kernel
theorem dX3_takeKind_60 : decode cX3_takeKind 60 = .ok (.iconst 2, 1) := by decide +kernel
theorem dX3_takeKind_61 : decode cX3_takeKind 61 = .ok (.invokevirtual 62, 3) := by decide +kernel
theorem dX3_takeKind_64 : decode cX3_takeKind 64 = .ok (.iconst 0, 1) := by decide +kernel
theorem dX3_takeKind_65 : decode cX3_takeKind 65 = .ok (.ireturn, 1) := by decide +kernel
theorem dX4_init_0 : decode cX4_init 0 = .ok (.aload_n 0, 1) := by decide +kernel
theorem dX4_init_1 : decode cX4_init 1 = .ok (.invokespecial 3, 3) := by decide +kernel
theorem dX4_init_4 : decode cX4_init 4 = .ok (.aload_n 0, 1) := by decide +kernel
theorem dX4_init_5 : decode cX4_init 5 = .ok (.bipush 40, 2) := by decide +kernel
theorem dX4_init_7 : decode cX4_init 7 = .ok (.newarray .int, 2) := by decide +kernel
theorem dX4_init_9 : decode cX4_init 9 = .ok (.putfield 9, 3) := by decide +kernel
theorem dX4_init_12 : decode cX4_init 12 = .ok (.aload_n 0, 1) := by decide +kernel
theorem dX4_init_13 : decode cX4_init 13 = .ok (.iconst (-1), 1) := by decide +kernel
theorem dX4_init_14 : decode cX4_init 14 = .ok (.putfield 15, 3) := by decide +kernel
theorem dX4_init_17 : decode cX4_init 17 = .ok (.return_, 1) := by decide +kernel
theorem dX4_isNothing_0 : decode cX4_isNothing 0 = .ok (.aload_n 0, 1) := by decide +kernel
theorem dX4_isNothing_1 : decode cX4_isNothing 1 = .ok (.getfield 15, 3) := by decide +kernel
theorem dX4_isNothing_4 : decode cX4_isNothing 4 = .ok (.ifCond .ge 7, 3) := by decide +kernel
theorem dX4_isNothing_7 : decode cX4_isNothing 7 = .ok (.iconst 1, 1) := by decide +kernel
theorem dX4_isNothing_8 : decode cX4_isNothing 8 = .ok (.goto 4, 3) := by decide +kernel
theorem dX4_isNothing_11 : decode cX4_isNothing 11 = .ok (.iconst 0, 1) := by decide +kernel
theorem dX4_isNothing_12 : decode cX4_isNothing 12 = .ok (.ireturn, 1) := by decide +kernel
theorem dX4_renew_0 : decode cX4_renew 0 = .ok (.aload_n 0, 1) := by decide +kernel
theorem dX4_renew_1 : decode cX4_renew 1 = .ok (.iload_n 1, 1) := by decide +kernel
theorem dX4_renew_2 : decode cX4_renew 2 = .ok (.putfield 19, 3) := by decide +kernel
theorem dX4_renew_5 : decode cX4_renew 5 = .ok (.aload_n 0, 1) := by decide +kernel
theorem dX4_renew_6 : decode cX4_renew 6 = .ok (.iload_n 2, 1) := by decide +kernel
theorem dX4_renew_7 : decode cX4_renew 7 = .ok (.putfield 15, 3) := by decide +kernel
theorem dX4_renew_10 : decode cX4_renew 10 = .ok (.aload_n 0, 1) := by decide +kernel
theorem dX4_renew_11 : decode cX4_renew 11 = .ok (.getfield 9, 3) := by decide +kernel
theorem dX4_renew_14 : decode cX4_renew 14 = .ok (.iconst 0, 1) := by decide +kernel
theorem dX4_renew_15 : decode cX4_renew 15 = .ok (.invokestatic 22, 3) := by decide +kernel
theorem dX4_renew_18 : decode cX4_renew 18 = .ok (.return_, 1) := by decide +kernel
theorem dX4_put_0 : decode cX4_put 0 = .ok (.aload_n 0, 1) := by decide +kernel
theorem dX4_put_1 : decode cX4_put 1 = .ok (.getfield 9, 3) := by decide +kernel
theorem dX4_put_4 : decode cX4_put 4 = .ok (.iload_n 1, 1) := by decide +kernel
theorem dX4_put_5 : decode cX4_put 5 = .ok (.aload_n 0, 1) := by decide +kernel
theorem dX4_put_6 : decode cX4_put 6 = .ok (.getfield 19, 3) := by decide +kernel
theorem dX4_put_9 : decode cX4_put 9 = .ok (.ifCond .ne 8, 3) := by decide +kernel
theorem dX4_put_12 : decode cX4_put 12 = .ok (.iload_n 2, 1) := by decide +kernel
theorem dX4_put_13 : decode cX4_put 13 = .ok (.i2b, 1) := by decide +kernel
theorem dX4_put_14 : decode cX4_put 14 = .ok (.goto 17, 3) := by decide +kernel
theorem dX4_put_17 : decode cX4_put 17 = .ok (.aload_n 0, 1) := by decide +kernel
theorem dX4_put_18 : decode cX4_put 18 = .ok (.getfield 19, 3) := by decide +kernel
theorem dX4_put_21 : decode cX4_put 21 = .ok (.iconst 1, 1) := by decide +kernel
theorem dX4_put_22 : decode cX4_put 22 = .ok (.if_icmp .ne 8, 3) := by decide +kernel
theorem dX4_put_25 : decode cX4_put 25 = .ok (.iload_n 2, 1) := by decide +kernel
theorem dX4_put_26 : decode cX4_put 26 = .ok (.i2s, 1) := by decide +kernel
theorem dX4_put_27 : decode cX4_put 27 = .ok (.goto 4, 3) := by decide +kernel
theorem dX4_put_30 : decode cX4_put 30 = .ok (.iload_n 2, 1) := by decide +kernel
theorem dX4_put_31 : decode cX4_put 31 = .ok (.iastore, 1) := by decide +kernel
theorem dX4_put_32 : decode cX4_put 32 = .ok (.return_, 1) := by decide +kernel
theorem dX4_faultAt_0 : decode cX4_faultAt 0 = .ok (.aload_n 0, 1) := by decide +kernel
theorem dX4_faultAt_1 : decode cX4_faultAt 1 = .ok (.invokevirtual 28, 3) := by decide +kernel
theorem dX4_faultAt_4 : decode cX4_faultAt 4 = .ok (.ifCond .eq 5, 3) := by decide +kernel
theorem dX4_faultAt_7 : decode cX4_faultAt 7 = .ok (.iconst 1, 1) := by decide +kernel
theorem dX4_faultAt_8 : decode cX4_faultAt 8 = .ok (.ireturn, 1) := by decide +kernel
theorem dX4_faultAt_9 : decode cX4_faultAt 9 = .ok (.iload_n 1, 1) := by decide +kernel
theorem dX4_faultAt_10 : decode cX4_faultAt 10 = .ok (.iconst 0, 1) := by decide +kernel
theorem dX4_faultAt_11 : decode cX4_faultAt 11 = .ok (.aload_n 0, 1) := by decide +kernel
theorem dX4_faultAt_12 : decode cX4_faultAt 12 = .ok (.getfield 15, 3) := by decide +kernel
theorem dX4_faultAt_15 : decode cX4_faultAt 15 = .ok (.iconst 1, 1) := by decide +kernel
theorem dX4_faultAt_16 : decode cX4_faultAt 16 = .ok (.isub, 1) := by decide +kernel
theorem dX4_faultAt_17 : decode cX4_faultAt 17 = .ok (.invokestatic 32, 3) := by decide +kernel
theorem dX4_faultAt_20 : decode cX4_faultAt 20 = .ok (.ifCond .eq 7, 3) := by decide +kernel
theorem dX4_faultAt_23 : decode cX4_faultAt 23 = .ok (.iconst 0, 1) := by decide +kernel
theorem dX4_faultAt_24 : decode cX4_faultAt 24 = .ok (.goto 4, 3) := by decide +kernel
theorem dX4_faultAt_27 : decode cX4_faultAt 27 = .ok (.iconst 2, 1) := by decide +kernel
theorem dX4_faultAt_28 : decode cX4_faultAt 28 = .ok (.ireturn, 1) := by decide +kernel
theorem dX4_faultOfYear_0 : decode cX4_faultOfYear 0 = .ok (.aload_n 0, 1) := by decide +kernel
theorem dX4_faultOfYear_1 : decode cX4_faultOfYear 1 = .ok (.invokevirtual 28, 3) := by decide +kernel
theorem dX4_faultOfYear_4 : decode cX4_faultOfYear 4 = .ok (.ifCond .ne 13, 3) := by decide +kernel
theorem dX4_faultOfYear_7 : decode cX4_faultOfYear 7 = .ok (.aload_n 0, 1) := by decide +kernel
theorem dX4_faultOfYear_8 : decode cX4_faultOfYear 8 = .ok (.getfield 19, 3) := by decide +kernel
theorem dX4_faultOfYear_11 : decode cX4_faultOfYear 11 = .ok (.iload_n 1, 1) := by decide +kernel
theorem dX4_faultOfYear_12 : decode cX4_faultOfYear 12 = .ok (.if_icmp .eq 5, 3) := by decide +kernel
theorem dX4_faultOfYear_15 : decode cX4_faultOfYear 15 = .ok (.iconst 3, 1) := by decide +kernel
theorem dX4_faultOfYear_16 : decode cX4_faultOfYear 16 = .ok (.ireturn, 1) := by decide +kernel
theorem dX4_faultOfYear_17 : decode cX4_faultOfYear 17 = .ok (.aload_n 0, 1) := by decide +kernel
theorem dX4_faultOfYear_18 : decode cX4_faultOfYear 18 = .ok (.iload_n 2, 1) := by decide +kernel
theorem dX4_faultOfYear_19 : decode cX4_faultOfYear 19 = .ok (.invokevirtual 36, 3) := by decide +kernel
theorem dX4_faultOfYear_22 : decode cX4_faultOfYear 22 = .ok (.istore_n 3, 1) := by decide +kernel
theorem dX4_faultOfYear_23 : decode cX4_faultOfYear 23 = .ok (.iload_n 3, 1) := by decide +kernel
theorem dX4_faultOfYear_24 : decode cX4_faultOfYear 24 = .ok (.ifCond .eq 7, 3) := by decide +kernel
theorem dX4_faultOfYear_27 : decode cX4_faultOfYear 27 = .ok (.iload_n 3, 1) := by decide +kernel
theorem dX4_faultOfYear_28 : decode cX4_faultOfYear 28 = .ok (.goto 10, 3) := by decide +kernel
theorem dX4_faultOfYear_31 : decode cX4_faultOfYear 31 = .ok (.aload_n 0, 1) := by decide +kernel
theorem dX4_faultOfYear_32 : decode cX4_faultOfYear 32 = .ok (.iload_n 2, 1) := by decide +kernel
theorem dX4_faultOfYear_33 : decode cX4_faultOfYear 33 = .ok (.iconst 1, 1) := by decide +kernel
theorem dX4_faultOfYear_34 : decode cX4_faultOfYear 34 = .ok (.iadd, 1) := by decide +kernel
theorem dX4_faultOfYear_35 : decode cX4_faultOfYear 35 = .ok (.invokevirtual 36, 3) := by decide +kernel
theorem dX4_faultOfYear_38 : decode cX4_faultOfYear 38 = .ok (.ireturn, 1) := by decide +kernel
theorem dJ6_bitCount_0f7a4_0 : decode cJ6_bitCount_0f7a4 0 = .ok (.iload_n 0, 1) := by decide +kernel
theorem dJ6_bitCount_0f7a4_1 : decode cJ6_bitCount_0f7a4 1 = .ok (.iload_n 0, 1) := by decide +kernel
theorem dJ6_bitCount_0f7a4_2 : decode cJ6_bitCount_0f7a4 2 = .ok (.iconst 1, 1) := by decide +kernel
theorem dJ6_bitCount_0f7a4_3 : decode cJ6_bitCount_0f7a4 3 = .ok (.iushr, 1) := by decide +kernel
theorem dJ6_bitCount_0f7a4_4 : decode cJ6_bitCount_0f7a4 4 = .ok (.ldc_w 265, 3) := by decide +kernel
theorem dJ6_bitCount_0f7a4_7 : decode cJ6_bitCount_0f7a4 7 = .ok (.iand, 1) := by decide +kernel
theorem dJ6_bitCount_0f7a4_8 : decode cJ6_bitCount_0f7a4 8 = .ok (.isub, 1) := by decide +kernel
theorem dJ6_bitCount_0f7a4_9 : decode cJ6_bitCount_0f7a4 9 = .ok (.istore_n 0, 1) := by decide +kernel
theorem dJ6_bitCount_0f7a4_10 : decode cJ6_bitCount_0f7a4 10 = .ok (.iload_n 0, 1) := by decide +kernel
theorem dJ6_bitCount_0f7a4_11 : decode cJ6_bitCount_0f7a4 11 = .ok (.ldc_w 266, 3) := by decide +kernel
theorem dJ6_bitCount_0f7a4_14 : decode cJ6_bitCount_0f7a4 14 = .ok (.iand, 1) := by decide +kernel
theorem dJ6_bitCount_0f7a4_15 : decode cJ6_bitCount_0f7a4 15 = .ok (.iload_n 0, 1) := by decide +kernel
theorem dJ6_bitCount_0f7a4_16 : decode cJ6_bitCount_0f7a4 16 = .ok (.iconst 2, 1) := by decide +kernel
theorem dJ6_bitCount_0f7a4_17 : decode cJ6_bitCount_0f7a4 17 = .ok (.iushr, 1) := by decide +kernel
theorem dJ6_bitCount_0f7a4_18 : decode cJ6_bitCount_0f7a4 18 = .ok (.ldc_w 266, 3) := by decide +kernel
theorem dJ6_bitCount_0f7a4_21 : decode cJ6_bitCount_0f7a4 21 = .ok (.iand, 1) := by decide +kernel
theorem dJ6_bitCount_0f7a4_22 : decode cJ6_bitCount_0f7a4 22 = .ok (.iadd, 1) := by decide +kernel
theorem dJ6_bitCount_0f7a4_23 : decode cJ6_bitCount_0f7a4 23 = .ok (.istore_n 0, 1) := by decide +kernel
theorem dJ6_bitCount_0f7a4_24 : decode cJ6_bitCount_0f7a4 24 = .ok (.iload_n 0, 1) := by decide +kernel
theorem dJ6_bitCount_0f7a4_25 : decode cJ6_bitCount_0f7a4 25 = .ok (.iload_n 0, 1) := by decide +kernel
theorem dJ6_bitCount_0f7a4_26 : decode cJ6_bitCount_0f7a4 26 = .ok (.iconst 4, 1) := by decide +kernel
theorem dJ6_bitCount_0f7a4_27 : decode cJ6_bitCount_0f7a4 27 = .ok (.iushr, 1) := by decide +kernel
theorem dJ6_bitCount_0f7a4_28 : decode cJ6_bitCount_0f7a4 28 = .ok (.iadd, 1) := by decide +kernel
theorem dJ6_bitCount_0f7a4_29 : decode cJ6_bitCount_0f7a4 29 = .ok (.ldc_w 267, 3) := by decide +kernel
theorem dJ6_bitCount_0f7a4_32 : decode cJ6_bitCount_0f7a4 32 = .ok (.iand, 1) := by decide +kernel
theorem dJ6_bitCount_0f7a4_33 : decode cJ6_bitCount_0f7a4 33 = .ok (.istore_n 0, 1) := by decide +kernel
theorem dJ6_bitCount_0f7a4_34 : decode cJ6_bitCount_0f7a4 34 = .ok (.iload_n 0, 1) := by decide +kernel
theorem dJ6_bitCount_0f7a4_35 : decode cJ6_bitCount_0f7a4 35 = .ok (.iload_n 0, 1) := by decide +kernel
theorem dJ6_bitCount_0f7a4_36 : decode cJ6_bitCount_0f7a4 36 = .ok (.bipush 8, 2) := by decide +kernel
theorem dJ6_bitCount_0f7a4_38 : decode cJ6_bitCount_0f7a4 38 = .ok (.iushr, 1) := by decide +kernel
theorem dJ6_bitCount_0f7a4_39 : decode cJ6_bitCount_0f7a4 39 = .ok (.iadd, 1) := by decide +kernel
theorem dJ6_bitCount_0f7a4_40 : decode cJ6_bitCount_0f7a4 40 = .ok (.istore_n 0, 1) := by decide +kernel
theorem dJ6_bitCount_0f7a4_41 : decode cJ6_bitCount_0f7a4 41 = .ok (.iload_n 0, 1) := by decide +kernel
theorem dJ6_bitCount_0f7a4_42 : decode cJ6_bitCount_0f7a4 42 = .ok (.iload_n 0, 1) := by decide +kernel
theorem dJ6_bitCount_0f7a4_43 : decode cJ6_bitCount_0f7a4 43 = .ok (.bipush 16, 2) := by decide +kernel
theorem dJ6_bitCount_0f7a4_45 : decode cJ6_bitCount_0f7a4 45 = .ok (.iushr, 1) := by decide +kernel
theorem dJ6_bitCount_0f7a4_46 : decode cJ6_bitCount_0f7a4 46 = .ok (.iadd, 1) := by decide +kernel
theorem dJ6_bitCount_0f7a4_47 : decode cJ6_bitCount_0f7a4 47 = .ok (.istore_n 0, 1) := by decide +kernel
theorem dJ6_bitCount_0f7a4_48 : decode cJ6_bitCount_0f7a4 48 = .ok (.iload_n 0, 1) := by decide +kernel
theorem dJ6_bitCount_0f7a4_49 : decode cJ6_bitCount_0f7a4 49 = .ok (.bipush 63, 2) := by decide +kernel
theorem dJ6_bitCount_0f7a4_51 : decode cJ6_bitCount_0f7a4 51 = .ok (.iand, 1) := by decide +kernel
theorem dJ6_bitCount_0f7a4_52 : decode cJ6_bitCount_0f7a4 52 = .ok (.ireturn, 1) := by decide +kernel
theorem dJ9_abs_0f7a4_0 : decode cJ9_abs_0f7a4 0 = .ok (.iload_n 0, 1) := by decide +kernel
theorem dJ9_abs_0f7a4_1 : decode cJ9_abs_0f7a4 1 = .ok (.ifCond .ge 8, 3) := by decide +kernel
theorem dJ9_abs_0f7a4_4 : decode cJ9_abs_0f7a4 4 = .ok (.iload_n 0, 1) := by decide +kernel
theorem dJ9_abs_0f7a4_5 : decode cJ9_abs_0f7a4 5 = .ok (.ineg, 1) := by decide +kernel
theorem dJ9_abs_0f7a4_6 : decode cJ9_abs_0f7a4 6 = .ok (.goto 4, 3) := by decide +kernel
theorem dJ9_abs_0f7a4_9 : decode cJ9_abs_0f7a4 9 = .ok (.iload_n 0, 1) := by decide +kernel
theorem dJ9_abs_0f7a4_10 : decode cJ9_abs_0f7a4 10 = .ok (.ireturn, 1) := by decide +kernel
theorem dJ9_max_7cf53_0 : decode cJ9_max_7cf53 0 = .ok (.iload_n 0, 1) := by decide +kernel
theorem dJ9_max_7cf53_1 : decode cJ9_max_7cf53 1 = .ok (.iload_n 1, 1) := by decide +kernel
theorem dJ9_max_7cf53_2 : decode cJ9_max_7cf53 2 = .ok (.if_icmp .lt 7, 3) := by decide +kernel
theorem dJ9_max_7cf53_5 : decode cJ9_max_7cf53 5 = .ok (.iload_n 0, 1) := by decide +kernel
theorem dJ9_max_7cf53_6 : decode cJ9_max_7cf53 6 = .ok (.goto 4, 3) := by decide +kernel
theorem dJ9_max_7cf53_9 : decode cJ9_max_7cf53 9 = .ok (.iload_n 1, 1) := by decide +kernel
theorem dJ9_max_7cf53_10 : decode cJ9_max_7cf53 10 = .ok (.ireturn, 1) := by decide +kernel
theorem dJ9_min_7cf53_0 : decode cJ9_min_7cf53 0 = .ok (.iload_n 0, 1) := by decide +kernel
theorem dJ9_min_7cf53_1 : decode cJ9_min_7cf53 1 = .ok (.iload_n 1, 1) := by decide +kernel
theorem dJ9_min_7cf53_2 : decode cJ9_min_7cf53 2 = .ok (.if_icmp .gt 7, 3) := by decide +kernel
theorem dJ9_min_7cf53_5 : decode cJ9_min_7cf53 5 = .ok (.iload_n 0, 1) := by decide +kernel
theorem dJ9_min_7cf53_6 : decode cJ9_min_7cf53 6 = .ok (.goto 4, 3) := by decide +kernel
theorem dJ9_min_7cf53_9 : decode cJ9_min_7cf53 9 = .ok (.iload_n 1, 1) := by decide +kernel
theorem dJ9_min_7cf53_10 : decode cJ9_min_7cf53 10 = .ok (.ireturn, 1) := by decide +kernel
theorem dJ0_length_8abf5_0 : decode cJ0_length_8abf5 0 = .ok (.aload_n 0, 1) := by decide +kernel
theorem dJ0_length_8abf5_1 : decode cJ0_length_8abf5 1 = .ok (.getfield 9, 3) := by decide +kernel
theorem dJ0_length_8abf5_4 : decode cJ0_length_8abf5 4 = .ok (.arraylength, 1) := by decide +kernel
theorem dJ0_length_8abf5_5 : decode cJ0_length_8abf5 5 = .ok (.aload_n 0, 1) := by decide +kernel
theorem dJ0_length_8abf5_6 : decode cJ0_length_8abf5 6 = .ok (.invokevirtual 335, 3) := by decide +kernel
theorem dJ0_length_8abf5_9 : decode cJ0_length_8abf5 9 = .ok (.ishr, 1) := by decide +kernel
theorem dJ0_length_8abf5_10 : decode cJ0_length_8abf5 10 = .ok (.ireturn, 1) := by decide +kernel
theorem dJ0_charAt_5068e_0 : decode cJ0_charAt_5068e 0 = .ok (.aload_n 0, 1) := by decide +kernel
theorem dJ0_charAt_5068e_1 : decode cJ0_charAt_5068e 1 = .ok (.invokevirtual 492, 3) := by decide +kernel
theorem dJ0_charAt_5068e_4 : decode cJ0_charAt_5068e 4 = .ok (.ifCond .eq 12, 3) := by decide +kernel
theorem dJ0_charAt_5068e_7 : decode cJ0_charAt_5068e 7 = .ok (.aload_n 0, 1) := by decide +kernel
theorem dJ0_charAt_5068e_8 : decode cJ0_charAt_5068e 8 = .ok (.getfield 9, 3) := by decide +kernel
theorem dJ0_charAt_5068e_11 : decode cJ0_charAt_5068e 11 = .ok (.iload_n 1, 1) := by decide +kernel
theorem dJ0_charAt_5068e_12 : decode cJ0_charAt_5068e 12 = .ok (.invokestatic 495, 3) := by decide +kernel
theorem dJ0_charAt_5068e_15 : decode cJ0_charAt_5068e 15 = .ok (.ireturn, 1) := by decide +kernel
theorem dJ0_charAt_5068e_16 : decode cJ0_charAt_5068e 16 = .ok (.aload_n 0, 1) := by decide +kernel
theorem dJ0_charAt_5068e_17 : decode cJ0_charAt_5068e 17 = .ok (.getfield 9, 3) := by decide +kernel
theorem dJ0_charAt_5068e_20 : decode cJ0_charAt_5068e 20 = .ok (.iload_n 1, 1) := by decide +kernel
theorem dJ0_charAt_5068e_21 : decode cJ0_charAt_5068e 21 = .ok (.invokestatic 498, 3) := by decide +kernel
theorem dJ0_charAt_5068e_24 : decode cJ0_charAt_5068e 24 = .ok (.ireturn, 1) := by decide +kernel
theorem dJ0_coder_7d493_0 : decode cJ0_coder_7d493 0 = .ok (.getstatic 38, 3) := by decide +kernel
theorem dJ0_coder_7d493_3 : decode cJ0_coder_7d493 3 = .ok (.ifCond .eq 10, 3) := by decide +kernel
theorem dJ0_coder_7d493_6 : decode cJ0_coder_7d493 6 = .ok (.aload_n 0, 1) := by decide +kernel
theorem dJ0_coder_7d493_7 : decode cJ0_coder_7d493 7 = .ok (.getfield 15, 3) := by decide +kernel
theorem dJ0_coder_7d493_10 : decode cJ0_coder_7d493 10 = .ok (.goto 4, 3) := by decide +kernel
theorem dJ0_coder_7d493_13 : decode cJ0_coder_7d493 13 = .ok (.iconst 1, 1) := by decide +kernel
theorem dJ0_coder_7d493_14 : decode cJ0_coder_7d493 14 = .ok (.ireturn, 1) := by decide +kernel
theorem dJ0_isLatin1_aae02_0 : decode cJ0_isLatin1_aae02 0 = .ok (.getstatic 38, 3) := by decide +kernel
theorem dJ0_isLatin1_aae02_3 : decode cJ0_isLatin1_aae02 3 = .ok (.ifCond .eq 14, 3) := by decide +kernel
theorem dJ0_isLatin1_aae02_6 : decode cJ0_isLatin1_aae02 6 = .ok (.aload_n 0, 1) := by decide +kernel
theorem dJ0_isLatin1_aae02_7 : decode cJ0_isLatin1_aae02 7 = .ok (.getfield 15, 3) := by decide +kernel
theorem dJ0_isLatin1_aae02_10 : decode cJ0_isLatin1_aae02 10 = .ok (.ifCond .ne 7, 3) := by decide +kernel
theorem dJ0_isLatin1_aae02_13 : decode cJ0_isLatin1_aae02 13 = .ok (.iconst 1, 1) := by decide +kernel
theorem dJ0_isLatin1_aae02_14 : decode cJ0_isLatin1_aae02 14 = .ok (.goto 4, 3) := by decide +kernel
theorem dJ0_isLatin1_aae02_17 : decode cJ0_isLatin1_aae02 17 = .ok (.iconst 0, 1) := by decide +kernel
theorem dJ0_isLatin1_aae02_18 : decode cJ0_isLatin1_aae02 18 = .ok (.ireturn, 1) := by decide +kernel
theorem dJ0_checkIndex_df160_0 : decode cJ0_checkIndex_df160 0 = .ok (.iload_n 0, 1) := by decide +kernel
theorem dJ0_checkIndex_df160_1 : decode cJ0_checkIndex_df160 1 = .ok (.iload_n 1, 1) := by decide +kernel
theorem dJ0_checkIndex_df160_2 : decode cJ0_checkIndex_df160 2 = .ok (.getstatic 1053, 3) := by decide +kernel
theorem dJ0_checkIndex_df160_5 : decode cJ0_checkIndex_df160 5 = .ok (.invokestatic 1059, 3) := by decide +kernel
theorem dJ0_checkIndex_df160_8 : decode cJ0_checkIndex_df160 8 = .ok (.pop, 1) := by decide +kernel
theorem dJ0_checkIndex_df160_9 : decode cJ0_checkIndex_df160 9 = .ok (.return_, 1) := by decide +kernel
theorem dJ1_charAt_3b067_0 : decode cJ1_charAt_3b067 0 = .ok (.iload_n 1, 1) := by decide +kernel
theorem dJ1_charAt_3b067_1 : decode cJ1_charAt_3b067 1 = .ok (.aload_n 0, 1) := by decide +kernel
theorem dJ1_charAt_3b067_2 : decode cJ1_charAt_3b067 2 = .ok (.arraylength, 1) := by decide +kernel
theorem dJ1_charAt_3b067_3 : decode cJ1_charAt_3b067 3 = .ok (.invokestatic 9, 3) := by decide +kernel
theorem dJ1_charAt_3b067_6 : decode cJ1_charAt_3b067 6 = .ok (.aload_n 0, 1) := by decide +kernel
theorem dJ1_charAt_3b067_7 : decode cJ1_charAt_3b067 7 = .ok (.iload_n 1, 1) := by decide +kernel
theorem dJ1_charAt_3b067_8 : decode cJ1_charAt_3b067 8 = .ok (.baload, 1) := by decide +kernel
theorem dJ1_charAt_3b067_9 : decode cJ1_charAt_3b067 9 = .ok (.sipush 255, 3) := by decide +kernel
theorem dJ1_charAt_3b067_12 : decode cJ1_charAt_3b067 12 = .ok (.iand, 1) := by decide +kernel
theorem dJ1_charAt_3b067_13 : decode cJ1_charAt_3b067 13 = .ok (.i2c, 1) := by decide +kernel
theorem dJ1_charAt_3b067_14 : decode cJ1_charAt_3b067 14 = .ok (.ireturn, 1) := by decide +kernel
theorem dJ7_fill_53178_0 : decode cJ7_fill_53178 0 = .ok (.iconst 0, 1) := by decide +kernel
theorem dJ7_fill_53178_1 : decode cJ7_fill_53178 1 = .ok (.istore_n 2, 1) := by decide +kernel
theorem dJ7_fill_53178_2 : decode cJ7_fill_53178 2 = .ok (.aload_n 0, 1) := by decide +kernel
theorem dJ7_fill_53178_3 : decode cJ7_fill_53178 3 = .ok (.arraylength, 1) := by decide +kernel
theorem dJ7_fill_53178_4 : decode cJ7_fill_53178 4 = .ok (.istore_n 3, 1) := by decide +kernel
theorem dJ7_fill_53178_5 : decode cJ7_fill_53178 5 = .ok (.iload_n 2, 1) := by decide +kernel
theorem dJ7_fill_53178_6 : decode cJ7_fill_53178 6 = .ok (.iload_n 3, 1) := by decide +kernel
theorem dJ7_fill_53178_7 : decode cJ7_fill_53178 7 = .ok (.if_icmp .ge 13, 3) := by decide +kernel
theorem dJ7_fill_53178_10 : decode cJ7_fill_53178 10 = .ok (.aload_n 0, 1) := by decide +kernel
theorem dJ7_fill_53178_11 : decode cJ7_fill_53178 11 = .ok (.iload_n 2, 1) := by decide +kernel
theorem dJ7_fill_53178_12 : decode cJ7_fill_53178 12 = .ok (.iload_n 1, 1) := by decide +kernel
theorem dJ7_fill_53178_13 : decode cJ7_fill_53178 13 = .ok (.iastore, 1) := by decide +kernel
theorem dJ7_fill_53178_14 : decode cJ7_fill_53178 14 = .ok (.iinc 2 1, 3) := by decide +kernel
theorem dJ7_fill_53178_17 : decode cJ7_fill_53178 17 = .ok (.goto (-12), 3) := by decide +kernel
theorem dJ7_fill_53178_20 : decode cJ7_fill_53178 20 = .ok (.return_, 1) := by decide +kernel
theorem dJ3_checkIndex_8e157_0 : decode cJ3_checkIndex_8e157 0 = .ok (.iload_n 0, 1) := by decide +kernel
theorem dJ3_checkIndex_8e157_1 : decode cJ3_checkIndex_8e157 1 = .ok (.ifCond .lt 8, 3) := by decide +kernel
theorem dJ3_checkIndex_8e157_4 : decode cJ3_checkIndex_8e157 4 = .ok (.iload_n 0, 1) := by decide +kernel
theorem dJ3_checkIndex_8e157_5 : decode cJ3_checkIndex_8e157 5 = .ok (.iload_n 1, 1) := by decide +kernel
theorem dJ3_checkIndex_8e157_6 : decode cJ3_checkIndex_8e157 6 = .ok (.if_icmp .lt 10, 3) := by decide +kernel
theorem dJ3_checkIndex_8e157_9 : decode cJ3_checkIndex_8e157 9 = .ok (.aload_n 2, 1) := by decide +kernel
theorem dJ3_checkIndex_8e157_10 : decode cJ3_checkIndex_8e157 10 = .ok (.iload_n 0, 1) := by decide +kernel
theorem dJ3_checkIndex_8e157_11 : decode cJ3_checkIndex_8e157 11 = .ok (.iload_n 1, 1) := by decide +kernel
theorem dJ3_checkIndex_8e157_12 : decode cJ3_checkIndex_8e157 12 = .ok (.invokestatic 95, 3) := by decide +kernel
theorem dJ3_checkIndex_8e157_15 : decode cJ3_checkIndex_8e157 15 = .ok (.athrow, 1) := by decide +kernel
theorem dJ3_checkIndex_8e157_16 : decode cJ3_checkIndex_8e157 16 = .ok (.iload_n 0, 1) := by decide +kernel
theorem dJ3_checkIndex_8e157_17 : decode cJ3_checkIndex_8e157 17 = .ok (.ireturn, 1) := by decide +kernel
end
section
theorem dX5_init_0 : decode cX5_init 0 = .ok (.aload_n 0, 1) := by decide +kernel
theorem dX5_init_1 : decode cX5_init 1 = .ok (.invokespecial 3, 3) := by decide +kernel
theorem dX5_init_4 : decode cX5_init 4 = .ok (.aload_n 0, 1) := by decide +kernel
theorem dX5_init_5 : decode cX5_init 5 = .ok (.new 9, 3) := by decide +kernel
theorem dX5_init_8 : decode cX5_init 8 = .ok (.dup, 1) := by decide +kernel
theorem dX5_init_9 : decode cX5_init 9 = .ok (.invokespecial 11, 3) := by decide +kernel
theorem dX5_init_12 : decode cX5_init 12 = .ok (.putfield 12, 3) := by decide +kernel
theorem dX5_init_15 : decode cX5_init 15 = .ok (.aload_n 0, 1) := by decide +kernel
theorem dX5_init_16 : decode cX5_init 16 = .ok (.new 16, 3) := by decide +kernel
theorem dX5_init_19 : decode cX5_init 19 = .ok (.dup, 1) := by decide +kernel
theorem dX5_init_20 : decode cX5_init 20 = .ok (.invokespecial 18, 3) := by decide +kernel
theorem dX5_init_23 : decode cX5_init 23 = .ok (.putfield 19, 3) := by decide +kernel
theorem dX5_init_26 : decode cX5_init 26 = .ok (.aload_n 0, 1) := by decide +kernel
theorem dX5_init_27 : decode cX5_init 27 = .ok (.new 16, 3) := by decide +kernel
theorem dX5_init_30 : decode cX5_init 30 = .ok (.dup, 1) := by decide +kernel
theorem dX5_init_31 : decode cX5_init 31 = .ok (.invokespecial 18, 3) := by decide +kernel
theorem dX5_init_34 : decode cX5_init 34 = .ok (.putfield 23, 3) := by decide +kernel
theorem dX5_init_37 : decode cX5_init 37 = .ok (.aload_n 0, 1) := by decide +kernel
theorem dX5_init_38 : decode cX5_init 38 = .ok (.new 26, 3) := by decide +kernel
theorem dX5_init_41 : decode cX5_init 41 = .ok (.dup, 1) := by decide +kernel
theorem dX5_init_42 : decode cX5_init 42 = .ok (.invokespecial 28, 3) := by decide +kernel
theorem dX5_init_45 : decode cX5_init 45 = .ok (.putfield 29, 3) := by decide +kernel
theorem dX5_init_48 : decode cX5_init 48 = .ok (.aload_n 0, 1) := by decide +kernel
theorem dX5_init_49 : decode cX5_init 49 = .ok (.new 33, 3) := by decide +kernel
theorem dX5_init_52 : decode cX5_init 52 = .ok (.dup, 1) := by decide +kernel
theorem dX5_init_53 : decode cX5_init 53 = .ok (.invokespecial 35, 3) := by decide +kernel
theorem dX5_init_56 : decode cX5_init 56 = .ok (.putfield 36, 3) := by decide +kernel
theorem dX5_init_59 : decode cX5_init 59 = .ok (.aload_n 0, 1) := by decide +kernel
theorem dX5_init_60 : decode cX5_init 60 = .ok (.iconst 2, 1) := by decide +kernel
theorem dX5_init_61 : decode cX5_init 61 = .ok (.anewarray 16, 3) := by decide +kernel
theorem dX5_init_64 : decode cX5_init 64 = .ok (.putfield 40, 3) := by decide +kernel
theorem dX5_init_67 : decode cX5_init 67 = .ok (.aload_n 0, 1) := by decide +kernel
theorem dX5_init_68 : decode cX5_init 68 = .ok (.iconst 2, 1) := by decide +kernel
theorem dX5_init_69 : decode cX5_init 69 = .ok (.newarray .boolean, 2) := by decide +kernel
theorem dX5_init_71 : decode cX5_init 71 = .ok (.putfield 44, 3) := by decide +kernel
theorem dX5_init_74 : decode cX5_init 74 = .ok (.aload_n 0, 1) := by decide +kernel
theorem dX5_init_75 : decode cX5_init 75 = .ok (.iconst 4, 1) := by decide +kernel
theorem dX5_init_76 : decode cX5_init 76 = .ok (.anewarray 48, 3) := by decide +kernel
theorem dX5_init_79 : decode cX5_init 79 = .ok (.putfield 50, 3) := by decide +kernel
theorem dX5_init_82 : decode cX5_init 82 = .ok (.iconst 0, 1) := by decide +kernel
theorem dX5_init_83 : decode cX5_init 83 = .ok (.istore_n 1, 1) := by decide +kernel
theorem dX5_init_84 : decode cX5_init 84 = .ok (.iload_n 1, 1) := by decide +kernel
theorem dX5_init_85 : decode cX5_init 85 = .ok (.iconst 2, 1) := by decide +kernel
theorem dX5_init_86 : decode cX5_init 86 = .ok (.if_icmp .ge 22, 3) := by decide +kernel
theorem dX5_init_89 : decode cX5_init 89 = .ok (.aload_n 0, 1) := by decide +kernel
theorem dX5_init_90 : decode cX5_init 90 = .ok (.getfield 40, 3) := by decide +kernel
theorem dX5_init_93 : decode cX5_init 93 = .ok (.iload_n 1, 1) := by decide +kernel
theorem dX5_init_94 : decode cX5_init 94 = .ok (.new 16, 3) := by decide +kernel
theorem dX5_init_97 : decode cX5_init 97 = .ok (.dup, 1) := by decide +kernel
theorem dX5_init_98 : decode cX5_init 98 = .ok (.invokespecial 18, 3) := by decide +kernel
theorem dX5_init_101 : decode cX5_init 101 = .ok (.aastore, 1) := by decide +kernel
theorem dX5_init_102 : decode cX5_init 102 = .ok (.iinc 1 1, 3) := by decide +kernel
theorem dX5_init_105 : decode cX5_init 105 = .ok (.goto (-21), 3) := by decide +kernel
theorem dX5_init_108 : decode cX5_init 108 = .ok (.iconst 0, 1) := by decide +kernel
theorem dX5_init_109 : decode cX5_init 109 = .ok (.istore_n 1, 1) := by decide +kernel
theorem dX5_init_110 : decode cX5_init 110 = .ok (.iload_n 1, 1) := by decide +kernel
theorem dX5_init_111 : decode cX5_init 111 = .ok (.iconst 4, 1) := by decide +kernel
theorem dX5_init_112 : decode cX5_init 112 = .ok (.if_icmp .ge 22, 3) := by decide +kernel
theorem dX5_init_115 : decode cX5_init 115 = .ok (.aload_n 0, 1) := by decide +kernel
theorem dX5_init_116 : decode cX5_init 116 = .ok (.getfield 50, 3) := by decide +kernel
theorem dX5_init_119 : decode cX5_init 119 = .ok (.iload_n 1, 1) := by decide +kernel
theorem dX5_init_120 : decode cX5_init 120 = .ok (.new 48, 3) := by decide +kernel
theorem dX5_init_123 : decode cX5_init 123 = .ok (.dup, 1) := by decide +kernel
theorem dX5_init_124 : decode cX5_init 124 = .ok (.invokespecial 54, 3) := by decide +kernel
theorem dX5_init_127 : decode cX5_init 127 = .ok (.aastore, 1) := by decide +kernel
theorem dX5_init_128 : decode cX5_init 128 = .ok (.iinc 1 1, 3) := by decide +kernel
theorem dX5_init_131 : decode cX5_init 131 = .ok (.goto (-21), 3) := by decide +kernel
theorem dX5_init_134 : decode cX5_init 134 = .ok (.return_, 1) := by decide +kernel
theorem dX5_feed_0 : decode cX5_feed 0 = .ok (.iload_n 1, 1) := by decide +kernel
theorem dX5_feed_1 : decode cX5_feed 1 = .ok (.iconst 0, 1) := by decide +kernel
theorem dX5_feed_2 : decode cX5_feed 2 = .ok (.bipush 127, 2) := by decide +kernel
theorem dX5_feed_4 : decode cX5_feed 4 = .ok (.invokestatic 55, 3) := by decide +kernel
theorem dX5_feed_7 : decode cX5_feed 7 = .ok (.ifCond .ne 5, 3) := by decide +kernel
theorem dX5_feed_10 : decode cX5_feed 10 = .ok (.iconst (-1), 1) := by decide +kernel
theorem dX5_feed_11 : decode cX5_feed 11 = .ok (.ireturn, 1) := by decide +kernel
theorem dX5_feed_12 : decode cX5_feed 12 = .ok (.aload_n 0, 1) := by decide +kernel
theorem dX5_feed_13 : decode cX5_feed 13 = .ok (.getfield 12, 3) := by decide +kernel
theorem dX5_feed_16 : decode cX5_feed 16 = .ok (.iload_n 1, 1) := by decide +kernel
theorem dX5_feed_17 : decode cX5_feed 17 = .ok (.invokevirtual 59, 3) := by decide +kernel
theorem dX5_feed_20 : decode cX5_feed 20 = .ok (.ifCond .eq 13, 3) := by decide +kernel
theorem dX5_feed_23 : decode cX5_feed 23 = .ok (.aload_n 0, 1) := by decide +kernel
theorem dX5_feed_24 : decode cX5_feed 24 = .ok (.getfield 12, 3) := by decide +kernel
theorem dX5_feed_27 : decode cX5_feed 27 = .ok (.getfield 63, 3) := by decide +kernel
theorem dX5_feed_30 : decode cX5_feed 30 = .ok (.goto 5, 3) := by decide +kernel
theorem dX5_feed_33 : decode cX5_feed 33 = .ok (.bipush (-3), 2) := by decide +kernel
theorem dX5_feed_35 : decode cX5_feed 35 = .ok (.ireturn, 1) := by decide +kernel
theorem dX5_end_0 : decode cX5_end 0 = .ok (.iload_n 1, 1) := by decide +kernel
theorem dX5_end_1 : decode cX5_end 1 = .ok (.iconst 0, 1) := by decide +kernel
theorem dX5_end_2 : decode cX5_end 2 = .ok (.aload_n 0, 1) := by decide +kernel
theorem dX5_end_3 : decode cX5_end 3 = .ok (.getfield 12, 3) := by decide +kernel
theorem dX5_end_6 : decode cX5_end 6 = .ok (.getfield 63, 3) := by decide +kernel
theorem dX5_end_9 : decode cX5_end 9 = .ok (.invokestatic 55, 3) := by decide +kernel
theorem dX5_end_12 : decode cX5_end 12 = .ok (.ifCond .ne 5, 3) := by decide +kernel
theorem dX5_end_15 : decode cX5_end 15 = .ok (.iconst (-1), 1) := by decide +kernel
theorem dX5_end_16 : decode cX5_end 16 = .ok (.ireturn, 1) := by decide +kernel
theorem dX5_end_17 : decode cX5_end 17 = .ok (.aload_n 0, 1) := by decide +kernel
theorem dX5_end_18 : decode cX5_end 18 = .ok (.getfield 12, 3) := by decide +kernel
theorem dX5_end_21 : decode cX5_end 21 = .ok (.getfield 63, 3) := by decide +kernel
theorem dX5_end_24 : decode cX5_end 24 = .ok (.istore_n 2, 1) := by decide +kernel
theorem dX5_end_25 : decode cX5_end 25 = .ok (.aload_n 0, 1) := by decide +kernel
theorem dX5_end_26 : decode cX5_end 26 = .ok (.getfield 12, 3) := by decide +kernel
theorem dX5_end_29 : decode cX5_end 29 = .ok (.iload_n 1, 1) := by decide +kernel
theorem dX5_end_30 : decode cX5_end 30 = .ok (.putfield 63, 3) := by decide +kernel
theorem dX5_end_33 : decode cX5_end 33 = .ok (.iload_n 2, 1) := by decide +kernel
theorem dX5_end_34 : decode cX5_end 34 = .ok (.ireturn, 1) := by decide +kernel
theorem dX5_text_0 : decode cX5_text 0 = .ok (.aload_n 0, 1) := by decide +kernel
theorem dX5_text_1 : decode cX5_text 1 = .ok (.getfield 12, 3) := by decide +kernel
theorem dX5_text_4 : decode cX5_text 4 = .ok (.aload_n 0, 1) := by decide +kernel
theorem dX5_text_5 : decode cX5_text 5 = .ok (.getfield 23, 3) := by decide +kernel
theorem dX5_text_8 : decode cX5_text 8 = .ok (.invokevirtual 67, 3) := by decide +kernel
theorem dX5_text_11 : decode cX5_text 11 = .ok (.iconst 0, 1) := by decide +kernel
theorem dX5_text_12 : decode cX5_text 12 = .ok (.istore_n 1, 1) := by decide +kernel
theorem dX5_text_13 : decode cX5_text 13 = .ok (.iload_n 1, 1) := by decide +kernel
theorem dX5_text_14 : decode cX5_text 14 = .ok (.sipush 160, 3) := by decide +kernel
theorem dX5_text_17 : decode cX5_text 17 = .ok (.if_icmp .ge 26, 3) := by decide +kernel
theorem dX5_text_20 : decode cX5_text 20 = .ok (.aload_n 0, 1) := by decide +kernel
theorem dX5_text_21 : decode cX5_text 21 = .ok (.getfield 12, 3) := by decide +kernel
theorem dX5_text_24 : decode cX5_text 24 = .ok (.invokevirtual 71, 3) := by decide +kernel
theorem dX5_text_27 : decode cX5_text 27 = .ok (.ifCond .eq 16, 3) := by decide +kernel
theorem dX5_text_30 : decode cX5_text 30 = .ok (.aload_n 0, 1) := by decide +kernel
theorem dX5_text_31 : decode cX5_text 31 = .ok (.getfield 12, 3) := by decide +kernel
theorem dX5_text_34 : decode cX5_text 34 = .ok (.invokevirtual 75, 3) := by decide +kernel
theorem dX5_text_37 : decode cX5_text 37 = .ok (.iinc 1 1, 3) := by decide +kernel
theorem dX5_text_40 : decode cX5_text 40 = .ok (.goto (-27), 3) := by decide +kernel
theorem dX5_text_43 : decode cX5_text 43 = .ok (.aload_n 0, 1) := by decide +kernel
theorem dX5_text_44 : decode cX5_text 44 = .ok (.getfield 12, 3) := by decide +kernel
theorem dX5_text_47 : decode cX5_text 47 = .ok (.iconst 0, 1) := by decide +kernel
theorem dX5_text_48 : decode cX5_text 48 = .ok (.putfield 63, 3) := by decide +kernel
theorem dX5_text_51 : decode cX5_text 51 = .ok (.aload_n 0, 1) := by decide +kernel
theorem dX5_text_52 : decode cX5_text 52 = .ok (.getfield 12, 3) := by decide +kernel
theorem dX5_text_55 : decode cX5_text 55 = .ok (.getfield 78, 3) := by decide +kernel
theorem dX5_text_58 : decode cX5_text 58 = .ok (.ifCond .eq 14, 3) := by decide +kernel
theorem dX5_text_61 : decode cX5_text 61 = .ok (.bipush (-10), 2) := by decide +kernel
theorem dX5_text_63 : decode cX5_text 63 = .ok (.aload_n 0, 1) := by decide +kernel
theorem dX5_text_64 : decode cX5_text 64 = .ok (.getfield 12, 3) := by decide +kernel
theorem dX5_text_67 : decode cX5_text 67 = .ok (.getfield 81, 3) := by decide +kernel
theorem dX5_text_70 : decode cX5_text 70 = .ok (.isub, 1) := by decide +kernel
theorem dX5_text_71 : decode cX5_text 71 = .ok (.ireturn, 1) := by decide +kernel
theorem dX5_text_72 : decode cX5_text 72 = .ok (.aload_n 0, 1) := by decide +kernel
theorem dX5_text_73 : decode cX5_text 73 = .ok (.getfield 19, 3) := by decide +kernel
theorem dX5_text_76 : decode cX5_text 76 = .ok (.aload_n 0, 1) := by decide +kernel
theorem dX5_text_77 : decode cX5_text 77 = .ok (.getfield 23, 3) := by decide +kernel
theorem dX5_text_80 : decode cX5_text 80 = .ok (.invokevirtual 84, 3) := by decide +kernel
theorem dX5_text_83 : decode cX5_text 83 = .ok (.aload_n 0, 1) := by decide +kernel
theorem dX5_text_84 : decode cX5_text 84 = .ok (.getfield 36, 3) := by decide +kernel
theorem dX5_text_87 : decode cX5_text 87 = .ok (.iconst 0, 1) := by decide +kernel
theorem dX5_text_88 : decode cX5_text 88 = .ok (.putfield 87, 3) := by decide +kernel
theorem dX5_text_91 : decode cX5_text 91 = .ok (.iconst 0, 1) := by decide +kernel
theorem dX5_text_92 : decode cX5_text 92 = .ok (.istore_n 2, 1) := by decide +kernel
theorem dX5_text_93 : decode cX5_text 93 = .ok (.iload_n 2, 1) := by decide +kernel
theorem dX5_text_94 : decode cX5_text 94 = .ok (.iconst 2, 1) := by decide +kernel
theorem dX5_text_95 : decode cX5_text 95 = .ok (.if_icmp .ge 16, 3) := by decide +kernel
theorem dX5_text_98 : decode cX5_text 98 = .ok (.aload_n 0, 1) := by decide +kernel
theorem dX5_text_99 : decode cX5_text 99 = .ok (.getfield 44, 3) := by decide +kernel
theorem dX5_text_102 : decode cX5_text 102 = .ok (.iload_n 2, 1) := by decide +kernel
theorem dX5_text_103 : decode cX5_text 103 = .ok (.iconst 0, 1) := by decide +kernel
theorem dX5_text_104 : decode cX5_text 104 = .ok (.bastore, 1) := by decide +kernel
theorem dX5_text_105 : decode cX5_text 105 = .ok (.iinc 2 1, 3) := by decide +kernel
theorem dX5_text_108 : decode cX5_text 108 = .ok (.goto (-15), 3) := by decide +kernel
theorem dX5_text_111 : decode cX5_text 111 = .ok (.iload_n 1, 1) := by decide +kernel
theorem dX5_text_112 : decode cX5_text 112 = .ok (.ireturn, 1) := by decide +kernel
theorem dX5_fault_0 : decode cX5_fault 0 = .ok (.aload_n 0, 1) := by decide +kernel
theorem dX5_fault_1 : decode cX5_fault 1 = .ok (.getfield 12, 3) := by decide +kernel
theorem dX5_fault_4 : decode cX5_fault 4 = .ok (.getfield 78, 3) := by decide +kernel
theorem dX5_fault_7 : decode cX5_fault 7 = .ok (.ireturn, 1) := by decide +kernel
theorem dX5_rule_0 : decode cX5_rule 0 = .ok (.iload_n 1, 1) := by decide +kernel
theorem dX5_rule_1 : decode cX5_rule 1 = .ok (.tableswitch 183 0 13 #[71, 79, 87, 95, 103, 111, 119, 127, 135, 143, 151, 159, 167, 175], 71) := by decide +kernel
theorem dX5_rule_72 : decode cX5_rule 72 = .ok (.aload_n 0, 1) := by decide +kernel
theorem dX5_rule_73 : decode cX5_rule 73 = .ok (.getfield 19, 3) := by decide +kernel
theorem dX5_rule_76 : decode cX5_rule 76 = .ok (.getfield 90, 3) := by decide +kernel
theorem dX5_rule_79 : decode cX5_rule 79 = .ok (.ireturn, 1) := by decide +kernel
theorem dX5_rule_80 : decode cX5_rule 80 = .ok (.aload_n 0, 1) := by decide +kernel
theorem dX5_rule_81 : decode cX5_rule 81 = .ok (.getfield 19, 3) := by decide +kernel
theorem dX5_rule_84 : decode cX5_rule 84 = .ok (.getfield 93, 3) := by decide +kernel
theorem dX5_rule_87 : decode cX5_rule 87 = .ok (.ireturn, 1) := by decide +kernel
theorem dX5_rule_88 : decode cX5_rule 88 = .ok (.aload_n 0, 1) := by decide +kernel
theorem dX5_rule_89 : decode cX5_rule 89 = .ok (.getfield 19, 3) := by decide +kernel
theorem dX5_rule_92 : decode cX5_rule 92 = .ok (.getfield 96, 3) := by decide +kernel
theorem dX5_rule_95 : decode cX5_rule 95 = .ok (.ireturn, 1) := by decide +kernel
theorem dX5_rule_96 : decode cX5_rule 96 = .ok (.aload_n 0, 1) := by decide +kernel
theorem dX5_rule_97 : decode cX5_rule 97 = .ok (.getfield 19, 3) := by decide +kernel
theorem dX5_rule_100 : decode cX5_rule 100 = .ok (.getfield 99, 3) := by decide +kernel
theorem dX5_rule_103 : decode cX5_rule 103 = .ok (.ireturn, 1) := by decide +kernel
theorem dX5_rule_104 : decode cX5_rule 104 = .ok (.aload_n 0, 1) := by decide +kernel
theorem dX5_rule_105 : decode cX5_rule 105 = .ok (.getfield 19, 3) := by decide +kernel
theorem dX5_rule_108 : decode cX5_rule 108 = .ok (.getfield 102, 3) := by decide +kernel
theorem dX5_rule_111 : decode cX5_rule 111 = .ok (.ireturn, 1) := by decide +kernel
theorem dX5_rule_112 : decode cX5_rule 112 = .ok (.aload_n 0, 1) := by decide +kernel
theorem dX5_rule_113 : decode cX5_rule 113 = .ok (.getfield 19, 3) := by decide +kernel
theorem dX5_rule_116 : decode cX5_rule 116 = .ok (.getfield 105, 3) := by decide +kernel
theorem dX5_rule_119 : decode cX5_rule 119 = .ok (.ireturn, 1) := by decide +kernel
theorem dX5_rule_120 : decode cX5_rule 120 = .ok (.aload_n 0, 1) := by decide +kernel
theorem dX5_rule_121 : decode cX5_rule 121 = .ok (.getfield 19, 3) := by decide +kernel
theorem dX5_rule_124 : decode cX5_rule 124 = .ok (.getfield 108, 3) := by decide +kernel
theorem dX5_rule_127 : decode cX5_rule 127 = .ok (.ireturn, 1) := by decide +kernel
theorem dX5_rule_128 : decode cX5_rule 128 = .ok (.aload_n 0, 1) := by decide +kernel
theorem dX5_rule_129 : decode cX5_rule 129 = .ok (.getfield 19, 3) := by decide +kernel
theorem dX5_rule_132 : decode cX5_rule 132 = .ok (.getfield 111, 3) := by decide +kernel
theorem dX5_rule_135 : decode cX5_rule 135 = .ok (.ireturn, 1) := by decide +kernel
theorem dX5_rule_136 : decode cX5_rule 136 = .ok (.aload_n 0, 1) := by decide +kernel
theorem dX5_rule_137 : decode cX5_rule 137 = .ok (.getfield 19, 3) := by decide +kernel
theorem dX5_rule_140 : decode cX5_rule 140 = .ok (.getfield 114, 3) := by decide +kernel
theorem dX5_rule_143 : decode cX5_rule 143 = .ok (.ireturn, 1) := by decide +kernel
theorem dX5_rule_144 : decode cX5_rule 144 = .ok (.aload_n 0, 1) := by decide +kernel
theorem dX5_rule_145 : decode cX5_rule 145 = .ok (.getfield 19, 3) := by decide +kernel
theorem dX5_rule_148 : decode cX5_rule 148 = .ok (.getfield 117, 3) := by decide +kernel
theorem dX5_rule_151 : decode cX5_rule 151 = .ok (.ireturn, 1) := by decide +kernel
theorem dX5_rule_152 : decode cX5_rule 152 = .ok (.aload_n 0, 1) := by decide +kernel
theorem dX5_rule_153 : decode cX5_rule 153 = .ok (.getfield 19, 3) := by decide +kernel
theorem dX5_rule_156 : decode cX5_rule 156 = .ok (.getfield 120, 3) := by decide +kernel
theorem dX5_rule_159 : decode cX5_rule 159 = .ok (.ireturn, 1) := by decide +kernel
theorem dX5_rule_160 : decode cX5_rule 160 = .ok (.aload_n 0, 1) := by decide +kernel
theorem dX5_rule_161 : decode cX5_rule 161 = .ok (.getfield 19, 3) := by decide +kernel
theorem dX5_rule_164 : decode cX5_rule 164 = .ok (.getfield 123, 3) := by decide +kernel
theorem dX5_rule_167 : decode cX5_rule 167 = .ok (.ireturn, 1) := by decide +kernel
theorem dX5_rule_168 : decode cX5_rule 168 = .ok (.aload_n 0, 1) := by decide +kernel
theorem dX5_rule_169 : decode cX5_rule 169 = .ok (.getfield 19, 3) := by decide +kernel
theorem dX5_rule_172 : decode cX5_rule 172 = .ok (.getfield 126, 3) := by decide +kernel
theorem dX5_rule_175 : decode cX5_rule 175 = .ok (.ireturn, 1) := by decide +kernel
theorem dX5_rule_176 : decode cX5_rule 176 = .ok (.aload_n 0, 1) := by decide +kernel
theorem dX5_rule_177 : decode cX5_rule 177 = .ok (.getfield 19, 3) := by decide +kernel
theorem dX5_rule_180 : decode cX5_rule 180 = .ok (.getfield 129, 3) := by decide +kernel
theorem dX5_rule_183 : decode cX5_rule 183 = .ok (.ireturn, 1) := by decide +kernel
theorem dX5_rule_184 : decode cX5_rule 184 = .ok (.iconst (-1), 1) := by decide +kernel
theorem dX5_rule_185 : decode cX5_rule 185 = .ok (.ireturn, 1) := by decide +kernel
theorem dX5_land_0 : decode cX5_land 0 = .ok (.aload_n 0, 1) := by decide +kernel
theorem dX5_land_1 : decode cX5_land 1 = .ok (.iload_n 1, 1) := by decide +kernel
theorem dX5_land_2 : decode cX5_land 2 = .ok (.invokevirtual 132, 3) := by decide +kernel
theorem dX5_land_5 : decode cX5_land 5 = .ok (.ifCond .eq 10, 3) := by decide +kernel
theorem dX5_land_8 : decode cX5_land 8 = .ok (.iload_n 2, 1) := by decide +kernel
theorem dX5_land_9 : decode cX5_land 9 = .ok (.invokestatic 135, 3) := by decide +kernel
theorem dX5_land_12 : decode cX5_land 12 = .ok (.ifCond .ne 5, 3) := by decide +kernel
theorem dX5_land_15 : decode cX5_land 15 = .ok (.iconst (-1), 1) := by decide +kernel
theorem dX5_land_16 : decode cX5_land 16 = .ok (.ireturn, 1) := by decide +kernel
theorem dX5_land_17 : decode cX5_land 17 = .ok (.aload_n 0, 1) := by decide +kernel
theorem dX5_land_18 : decode cX5_land 18 = .ok (.getfield 19, 3) := by decide +kernel
theorem dX5_land_21 : decode cX5_land 21 = .ok (.iload_n 2, 1) := by decide +kernel
theorem dX5_land_22 : decode cX5_land 22 = .ok (.invokevirtual 138, 3) := by decide +kernel
theorem dX5_land_25 : decode cX5_land 25 = .ok (.iload_n 1, 1) := by decide +kernel
theorem dX5_land_26 : decode cX5_land 26 = .ok (.iaload, 1) := by decide +kernel
theorem dX5_land_27 : decode cX5_land 27 = .ok (.ireturn, 1) := by decide +kernel
theorem dX5_reading_0 : decode cX5_reading 0 = .ok (.aload_n 0, 1) := by decide +kernel
theorem dX5_reading_1 : decode cX5_reading 1 = .ok (.iload_n 1, 1) := by decide +kernel
theorem dX5_reading_2 : decode cX5_reading 2 = .ok (.invokevirtual 142, 3) := by decide +kernel
theorem dX5_reading_5 : decode cX5_reading 5 = .ok (.ifCond .ne 5, 3) := by decide +kernel
theorem dX5_reading_8 : decode cX5_reading 8 = .ok (.iconst (-1), 1) := by decide +kernel
theorem dX5_reading_9 : decode cX5_reading 9 = .ok (.ireturn, 1) := by decide +kernel
theorem dX5_reading_10 : decode cX5_reading 10 = .ok (.iload_n 2, 1) := by decide +kernel
theorem dX5_reading_11 : decode cX5_reading 11 = .ok (.ifCond .ne 13, 3) := by decide +kernel
theorem dX5_reading_14 : decode cX5_reading 14 = .ok (.aload_n 0, 1) := by decide +kernel
theorem dX5_reading_15 : decode cX5_reading 15 = .ok (.getfield 19, 3) := by decide +kernel
theorem dX5_reading_18 : decode cX5_reading 18 = .ok (.getfield 145, 3) := by decide +kernel
theorem dX5_reading_21 : decode cX5_reading 21 = .ok (.iload_n 1, 1) := by decide +kernel
theorem dX5_reading_22 : decode cX5_reading 22 = .ok (.iaload, 1) := by decide +kernel
theorem dX5_reading_23 : decode cX5_reading 23 = .ok (.ireturn, 1) := by decide +kernel
theorem dX5_reading_24 : decode cX5_reading 24 = .ok (.iload_n 2, 1) := by decide +kernel
theorem dX5_reading_25 : decode cX5_reading 25 = .ok (.iconst 1, 1) := by decide +kernel
theorem dX5_reading_26 : decode cX5_reading 26 = .ok (.if_icmp .ne 20, 3) := by decide +kernel
theorem dX5_reading_29 : decode cX5_reading 29 = .ok (.aload_n 0, 1) := by decide +kernel
theorem dX5_reading_30 : decode cX5_reading 30 = .ok (.getfield 19, 3) := by decide +kernel
theorem dX5_reading_33 : decode cX5_reading 33 = .ok (.iload_n 1, 1) := by decide +kernel
theorem dX5_reading_34 : decode cX5_reading 34 = .ok (.invokevirtual 149, 3) := by decide +kernel
theorem dX5_reading_37 : decode cX5_reading 37 = .ok (.ifCond .eq 7, 3) := by decide +kernel
theorem dX5_reading_40 : decode cX5_reading 40 = .ok (.iconst 1, 1) := by decide +kernel
theorem dX5_reading_41 : decode cX5_reading 41 = .ok (.goto 4, 3) := by decide +kernel
theorem dX5_reading_44 : decode cX5_reading 44 = .ok (.iconst 0, 1) := by decide +kernel
theorem dX5_reading_45 : decode cX5_reading 45 = .ok (.ireturn, 1) := by decide +kernel
theorem dX5_reading_46 : decode cX5_reading 46 = .ok (.iload_n 2, 1) := by decide +kernel
theorem dX5_reading_47 : decode cX5_reading 47 = .ok (.bipush 10, 2) := by decide +kernel
theorem dX5_reading_49 : decode cX5_reading 49 = .ok (.bipush 17, 2) := by decide +kernel
theorem dX5_reading_51 : decode cX5_reading 51 = .ok (.invokestatic 55, 3) := by decide +kernel
theorem dX5_reading_54 : decode cX5_reading 54 = .ok (.ifCond .eq 18, 3) := by decide +kernel
theorem dX5_reading_57 : decode cX5_reading 57 = .ok (.aload_n 0, 1) := by decide +kernel
theorem dX5_reading_58 : decode cX5_reading 58 = .ok (.getfield 19, 3) := by decide +kernel
theorem dX5_reading_61 : decode cX5_reading 61 = .ok (.iload_n 1, 1) := by decide +kernel
theorem dX5_reading_62 : decode cX5_reading 62 = .ok (.iload_n 2, 1) := by decide +kernel
theorem dX5_reading_63 : decode cX5_reading 63 = .ok (.bipush 10, 2) := by decide +kernel
theorem dX5_reading_65 : decode cX5_reading 65 = .ok (.isub, 1) := by decide +kernel
theorem dX5_reading_66 : decode cX5_reading 66 = .ok (.invokevirtual 152, 3) := by decide +kernel
theorem dX5_reading_69 : decode cX5_reading 69 = .ok (.goto 4, 3) := by decide +kernel
theorem dX5_reading_72 : decode cX5_reading 72 = .ok (.iconst (-1), 1) := by decide +kernel
theorem dX5_reading_73 : decode cX5_reading 73 = .ok (.ireturn, 1) := by decide +kernel
theorem dX5_bears_0 : decode cX5_bears 0 = .ok (.iload_n 1, 1) := by decide +kernel
theorem dX5_bears_1 : decode cX5_bears 1 = .ok (.invokestatic 135, 3) := by decide +kernel
theorem dX5_bears_4 : decode cX5_bears 4 = .ok (.ifCond .eq 14, 3) := by decide +kernel
theorem dX5_bears_7 : decode cX5_bears 7 = .ok (.aload_n 0, 1) := by decide +kernel
theorem dX5_bears_8 : decode cX5_bears 8 = .ok (.getfield 19, 3) := by decide +kernel
theorem dX5_bears_11 : decode cX5_bears 11 = .ok (.iload_n 1, 1) := by decide +kernel
theorem dX5_bears_12 : decode cX5_bears 12 = .ok (.invokevirtual 156, 3) := by decide +kernel
theorem dX5_bears_15 : decode cX5_bears 15 = .ok (.goto 4, 3) := by decide +kernel
theorem dX5_bears_18 : decode cX5_bears 18 = .ok (.iconst (-1), 1) := by decide +kernel
theorem dX5_bears_19 : decode cX5_bears 19 = .ok (.ireturn, 1) := by decide +kernel
theorem dX5_till_0 : decode cX5_till 0 = .ok (.aload_n 0, 1) := by decide +kernel
theorem dX5_till_1 : decode cX5_till 1 = .ok (.iload_n 1, 1) := by decide +kernel
theorem dX5_till_2 : decode cX5_till 2 = .ok (.invokevirtual 132, 3) := by decide +kernel
theorem dX5_till_5 : decode cX5_till 5 = .ok (.ifCond .eq 20, 3) := by decide +kernel
theorem dX5_till_8 : decode cX5_till 8 = .ok (.iload_n 2, 1) := by decide +kernel
theorem dX5_till_9 : decode cX5_till 9 = .ok (.invokestatic 135, 3) := by decide +kernel
theorem dX5_till_12 : decode cX5_till 12 = .ok (.ifCond .eq 13, 3) := by decide +kernel
theorem dX5_till_15 : decode cX5_till 15 = .ok (.iload_n 3, 1) := by decide +kernel
theorem dX5_till_16 : decode cX5_till 16 = .ok (.iconst 0, 1) := by decide +kernel
theorem dX5_till_17 : decode cX5_till 17 = .ok (.bipush 9, 2) := by decide +kernel
theorem dX5_till_19 : decode cX5_till 19 = .ok (.invokestatic 55, 3) := by decide +kernel
theorem dX5_till_22 : decode cX5_till 22 = .ok (.ifCond .ne 5, 3) := by decide +kernel
theorem dX5_till_25 : decode cX5_till 25 = .ok (.iconst (-1), 1) := by decide +kernel
theorem dX5_till_26 : decode cX5_till 26 = .ok (.ireturn, 1) := by decide +kernel
theorem dX5_till_27 : decode cX5_till 27 = .ok (.aload_n 0, 1) := by decide +kernel
theorem dX5_till_28 : decode cX5_till 28 = .ok (.getfield 19, 3) := by decide +kernel
theorem dX5_till_31 : decode cX5_till 31 = .ok (.iload_n 2, 1) := by decide +kernel
theorem dX5_till_32 : decode cX5_till 32 = .ok (.invokevirtual 138, 3) := by decide +kernel
theorem dX5_till_35 : decode cX5_till 35 = .ok (.astore 4, 2) := by decide +kernel
theorem dX5_till_37 : decode cX5_till 37 = .ok (.aload 4, 2) := by decide +kernel
theorem dX5_till_39 : decode cX5_till 39 = .ok (.iload_n 1, 1) := by decide +kernel
theorem dX5_till_40 : decode cX5_till 40 = .ok (.iaload, 1) := by decide +kernel
theorem dX5_till_41 : decode cX5_till 41 = .ok (.istore 5, 2) := by decide +kernel
theorem dX5_till_43 : decode cX5_till 43 = .ok (.aload 4, 2) := by decide +kernel
theorem dX5_till_45 : decode cX5_till 45 = .ok (.iload_n 1, 1) := by decide +kernel
theorem dX5_till_46 : decode cX5_till 46 = .ok (.iload_n 3, 1) := by decide +kernel
theorem dX5_till_47 : decode cX5_till 47 = .ok (.iastore, 1) := by decide +kernel
theorem dX5_till_48 : decode cX5_till 48 = .ok (.iload 5, 2) := by decide +kernel
theorem dX5_till_50 : decode cX5_till 50 = .ok (.ireturn, 1) := by decide +kernel
theorem dX5_weigh_0 : decode cX5_weigh 0 = .ok (.aload_n 0, 1) := by decide +kernel
theorem dX5_weigh_1 : decode cX5_weigh 1 = .ok (.iload_n 1, 1) := by decide +kernel
theorem dX5_weigh_2 : decode cX5_weigh 2 = .ok (.invokevirtual 142, 3) := by decide +kernel
theorem dX5_weigh_5 : decode cX5_weigh 5 = .ok (.ifCond .eq 13, 3) := by decide +kernel
theorem dX5_weigh_8 : decode cX5_weigh 8 = .ok (.iload_n 2, 1) := by decide +kernel
theorem dX5_weigh_9 : decode cX5_weigh 9 = .ok (.iconst 1, 1) := by decide +kernel
theorem dX5_weigh_10 : decode cX5_weigh 10 = .ok (.bipush 9, 2) := by decide +kernel
theorem dX5_weigh_12 : decode cX5_weigh 12 = .ok (.invokestatic 55, 3) := by decide +kernel
theorem dX5_weigh_15 : decode cX5_weigh 15 = .ok (.ifCond .ne 5, 3) := by decide +kernel
theorem dX5_weigh_18 : decode cX5_weigh 18 = .ok (.iconst (-1), 1) := by decide +kernel
theorem dX5_weigh_19 : decode cX5_weigh 19 = .ok (.ireturn, 1) := by decide +kernel
theorem dX5_weigh_20 : decode cX5_weigh 20 = .ok (.aload_n 0, 1) := by decide +kernel
theorem dX5_weigh_21 : decode cX5_weigh 21 = .ok (.getfield 19, 3) := by decide +kernel
theorem dX5_weigh_24 : decode cX5_weigh 24 = .ok (.getfield 145, 3) := by decide +kernel
theorem dX5_weigh_27 : decode cX5_weigh 27 = .ok (.iload_n 1, 1) := by decide +kernel
theorem dX5_weigh_28 : decode cX5_weigh 28 = .ok (.iaload, 1) := by decide +kernel
theorem dX5_weigh_29 : decode cX5_weigh 29 = .ok (.istore_n 3, 1) := by decide +kernel
theorem dX5_weigh_30 : decode cX5_weigh 30 = .ok (.aload_n 0, 1) := by decide +kernel
theorem dX5_weigh_31 : decode cX5_weigh 31 = .ok (.getfield 19, 3) := by decide +kernel
theorem dX5_weigh_34 : decode cX5_weigh 34 = .ok (.getfield 145, 3) := by decide +kernel
theorem dX5_weigh_37 : decode cX5_weigh 37 = .ok (.iload_n 1, 1) := by decide +kernel
theorem dX5_weigh_38 : decode cX5_weigh 38 = .ok (.iload_n 2, 1) := by decide +kernel
theorem dX5_weigh_39 : decode cX5_weigh 39 = .ok (.iastore, 1) := by decide +kernel
theorem dX5_weigh_40 : decode cX5_weigh 40 = .ok (.iload_n 3, 1) := by decide +kernel
theorem dX5_weigh_41 : decode cX5_weigh 41 = .ok (.ireturn, 1) := by decide +kernel
theorem dX5_need_0 : decode cX5_need 0 = .ok (.iload_n 1, 1) := by decide +kernel
theorem dX5_need_1 : decode cX5_need 1 = .ok (.iconst 0, 1) := by decide +kernel
theorem dX5_need_2 : decode cX5_need 2 = .ok (.bipush 40, 2) := by decide +kernel
theorem dX5_need_4 : decode cX5_need 4 = .ok (.invokestatic 55, 3) := by decide +kernel
theorem dX5_need_7 : decode cX5_need 7 = .ok (.ifCond .ne 5, 3) := by decide +kernel
theorem dX5_need_10 : decode cX5_need 10 = .ok (.iconst (-1), 1) := by decide +kernel
theorem dX5_need_11 : decode cX5_need 11 = .ok (.ireturn, 1) := by decide +kernel
theorem dX5_need_12 : decode cX5_need 12 = .ok (.aload_n 0, 1) := by decide +kernel
theorem dX5_need_13 : decode cX5_need 13 = .ok (.getfield 19, 3) := by decide +kernel
theorem dX5_need_16 : decode cX5_need 16 = .ok (.getfield 96, 3) := by decide +kernel
theorem dX5_need_19 : decode cX5_need 19 = .ok (.istore_n 2, 1) := by decide +kernel
theorem dX5_need_20 : decode cX5_need 20 = .ok (.aload_n 0, 1) := by decide +kernel
theorem dX5_need_21 : decode cX5_need 21 = .ok (.getfield 19, 3) := by decide +kernel
theorem dX5_need_24 : decode cX5_need 24 = .ok (.iload_n 1, 1) := by decide +kernel
theorem dX5_need_25 : decode cX5_need 25 = .ok (.putfield 96, 3) := by decide +kernel
theorem dX5_need_28 : decode cX5_need 28 = .ok (.iload_n 2, 1) := by decide +kernel
theorem dX5_need_29 : decode cX5_need 29 = .ok (.ireturn, 1) := by decide +kernel
theorem dX5_hunger_0 : decode cX5_hunger 0 = .ok (.iload_n 1, 1) := by decide +kernel
theorem dX5_hunger_1 : decode cX5_hunger 1 = .ok (.iconst 0, 1) := by decide +kernel
theorem dX5_hunger_2 : decode cX5_hunger 2 = .ok (.bipush 20, 2) := by decide +kernel
theorem dX5_hunger_4 : decode cX5_hunger 4 = .ok (.invokestatic 55, 3) := by decide +kernel
theorem dX5_hunger_7 : decode cX5_hunger 7 = .ok (.ifCond .ne 5, 3) := by decide +kernel
theorem dX5_hunger_10 : decode cX5_hunger 10 = .ok (.iconst (-1), 1) := by decide +kernel
theorem dX5_hunger_11 : decode cX5_hunger 11 = .ok (.ireturn, 1) := by decide +kernel
theorem dX5_hunger_12 : decode cX5_hunger 12 = .ok (.aload_n 0, 1) := by decide +kernel
theorem dX5_hunger_13 : decode cX5_hunger 13 = .ok (.getfield 19, 3) := by decide +kernel
theorem dX5_hunger_16 : decode cX5_hunger 16 = .ok (.getfield 99, 3) := by decide +kernel
theorem dX5_hunger_19 : decode cX5_hunger 19 = .ok (.istore_n 2, 1) := by decide +kernel
theorem dX5_hunger_20 : decode cX5_hunger 20 = .ok (.aload_n 0, 1) := by decide +kernel
theorem dX5_hunger_21 : decode cX5_hunger 21 = .ok (.getfield 19, 3) := by decide +kernel
theorem dX5_hunger_24 : decode cX5_hunger 24 = .ok (.iload_n 1, 1) := by decide +kernel
theorem dX5_hunger_25 : decode cX5_hunger 25 = .ok (.putfield 99, 3) := by decide +kernel
theorem dX5_hunger_28 : decode cX5_hunger 28 = .ok (.iload_n 2, 1) := by decide +kernel
theorem dX5_hunger_29 : decode cX5_hunger 29 = .ok (.ireturn, 1) := by decide +kernel
theorem dX5_cap_0 : decode cX5_cap 0 = .ok (.iload_n 1, 1) := by decide +kernel
theorem dX5_cap_1 : decode cX5_cap 1 = .ok (.iconst 0, 1) := by decide +kernel
theorem dX5_cap_2 : decode cX5_cap 2 = .ok (.bipush 40, 2) := by decide +kernel
theorem dX5_cap_4 : decode cX5_cap 4 = .ok (.invokestatic 55, 3) := by decide +kernel
theorem dX5_cap_7 : decode cX5_cap 7 = .ok (.ifCond .ne 5, 3) := by decide +kernel
theorem dX5_cap_10 : decode cX5_cap 10 = .ok (.iconst (-1), 1) := by decide +kernel
theorem dX5_cap_11 : decode cX5_cap 11 = .ok (.ireturn, 1) := by decide +kernel
theorem dX5_cap_12 : decode cX5_cap 12 = .ok (.aload_n 0, 1) := by decide +kernel
theorem dX5_cap_13 : decode cX5_cap 13 = .ok (.getfield 19, 3) := by decide +kernel
theorem dX5_cap_16 : decode cX5_cap 16 = .ok (.getfield 108, 3) := by decide +kernel
theorem dX5_cap_19 : decode cX5_cap 19 = .ok (.iload_n 1, 1) := by decide +kernel
theorem dX5_cap_20 : decode cX5_cap 20 = .ok (.if_icmp .le 6, 3) := by decide +kernel
theorem dX5_cap_23 : decode cX5_cap 23 = .ok (.bipush (-2), 2) := by decide +kernel
theorem dX5_cap_25 : decode cX5_cap 25 = .ok (.ireturn, 1) := by decide +kernel
theorem dX5_cap_26 : decode cX5_cap 26 = .ok (.aload_n 0, 1) := by decide +kernel
theorem dX5_cap_27 : decode cX5_cap 27 = .ok (.getfield 19, 3) := by decide +kernel
theorem dX5_cap_30 : decode cX5_cap 30 = .ok (.getfield 102, 3) := by decide +kernel
theorem dX5_cap_33 : decode cX5_cap 33 = .ok (.istore_n 2, 1) := by decide +kernel
theorem dX5_cap_34 : decode cX5_cap 34 = .ok (.aload_n 0, 1) := by decide +kernel
theorem dX5_cap_35 : decode cX5_cap 35 = .ok (.getfield 19, 3) := by decide +kernel
theorem dX5_cap_38 : decode cX5_cap 38 = .ok (.iload_n 1, 1) := by decide +kernel
theorem dX5_cap_39 : decode cX5_cap 39 = .ok (.putfield 102, 3) := by decide +kernel
theorem dX5_cap_42 : decode cX5_cap 42 = .ok (.iload_n 2, 1) := by decide +kernel
theorem dX5_cap_43 : decode cX5_cap 43 = .ok (.ireturn, 1) := by decide +kernel
theorem dX5_rot_0 : decode cX5_rot 0 = .ok (.iload_n 1, 1) := by decide +kernel
theorem dX5_rot_1 : decode cX5_rot 1 = .ok (.invokestatic 160, 3) := by decide +kernel
theorem dX5_rot_4 : decode cX5_rot 4 = .ok (.ifCond .ne 5, 3) := by decide +kernel
theorem dX5_rot_7 : decode cX5_rot 7 = .ok (.iconst (-1), 1) := by decide +kernel
theorem dX5_rot_8 : decode cX5_rot 8 = .ok (.ireturn, 1) := by decide +kernel
theorem dX5_rot_9 : decode cX5_rot 9 = .ok (.aload_n 0, 1) := by decide +kernel
theorem dX5_rot_10 : decode cX5_rot 10 = .ok (.getfield 19, 3) := by decide +kernel
theorem dX5_rot_13 : decode cX5_rot 13 = .ok (.getfield 105, 3) := by decide +kernel
theorem dX5_rot_16 : decode cX5_rot 16 = .ok (.istore_n 2, 1) := by decide +kernel
theorem dX5_rot_17 : decode cX5_rot 17 = .ok (.aload_n 0, 1) := by decide +kernel
theorem dX5_rot_18 : decode cX5_rot 18 = .ok (.getfield 19, 3) := by decide +kernel
theorem dX5_rot_21 : decode cX5_rot 21 = .ok (.iload_n 1, 1) := by decide +kernel
theorem dX5_rot_22 : decode cX5_rot 22 = .ok (.putfield 105, 3) := by decide +kernel
theorem dX5_rot_25 : decode cX5_rot 25 = .ok (.iload_n 2, 1) := by decide +kernel
theorem dX5_rot_26 : decode cX5_rot 26 = .ok (.ireturn, 1) := by decide +kernel
theorem dX5_fill_0 : decode cX5_fill 0 = .ok (.iload_n 1, 1) := by decide +kernel
theorem dX5_fill_1 : decode cX5_fill 1 = .ok (.iconst 0, 1) := by decide +kernel
theorem dX5_fill_2 : decode cX5_fill 2 = .ok (.aload_n 0, 1) := by decide +kernel
theorem dX5_fill_3 : decode cX5_fill 3 = .ok (.getfield 19, 3) := by decide +kernel
theorem dX5_fill_6 : decode cX5_fill 6 = .ok (.getfield 102, 3) := by decide +kernel
theorem dX5_fill_9 : decode cX5_fill 9 = .ok (.invokestatic 55, 3) := by decide +kernel
theorem dX5_fill_12 : decode cX5_fill 12 = .ok (.ifCond .ne 5, 3) := by decide +kernel
theorem dX5_fill_15 : decode cX5_fill 15 = .ok (.iconst (-1), 1) := by decide +kernel
theorem dX5_fill_16 : decode cX5_fill 16 = .ok (.ireturn, 1) := by decide +kernel
theorem dX5_fill_17 : decode cX5_fill 17 = .ok (.aload_n 0, 1) := by decide +kernel
theorem dX5_fill_18 : decode cX5_fill 18 = .ok (.getfield 19, 3) := by decide +kernel
theorem dX5_fill_21 : decode cX5_fill 21 = .ok (.getfield 108, 3) := by decide +kernel
theorem dX5_fill_24 : decode cX5_fill 24 = .ok (.istore_n 2, 1) := by decide +kernel
theorem dX5_fill_25 : decode cX5_fill 25 = .ok (.aload_n 0, 1) := by decide +kernel
theorem dX5_fill_26 : decode cX5_fill 26 = .ok (.getfield 19, 3) := by decide +kernel
theorem dX5_fill_29 : decode cX5_fill 29 = .ok (.iload_n 1, 1) := by decide +kernel
theorem dX5_fill_30 : decode cX5_fill 30 = .ok (.putfield 108, 3) := by decide +kernel
theorem dX5_fill_33 : decode cX5_fill 33 = .ok (.iload_n 2, 1) := by decide +kernel
theorem dX5_fill_34 : decode cX5_fill 34 = .ok (.ireturn, 1) := by decide +kernel
theorem dX5_price_0 : decode cX5_price 0 = .ok (.iload_n 1, 1) := by decide +kernel
theorem dX5_price_1 : decode cX5_price 1 = .ok (.invokestatic 135, 3) := by decide +kernel
theorem dX5_price_4 : decode cX5_price 4 = .ok (.ifCond .eq 13, 3) := by decide +kernel
theorem dX5_price_7 : decode cX5_price 7 = .ok (.iload_n 2, 1) := by decide +kernel
theorem dX5_price_8 : decode cX5_price 8 = .ok (.iconst 0, 1) := by decide +kernel
theorem dX5_price_9 : decode cX5_price 9 = .ok (.bipush 9, 2) := by decide +kernel
theorem dX5_price_11 : decode cX5_price 11 = .ok (.invokestatic 55, 3) := by decide +kernel
theorem dX5_price_14 : decode cX5_price 14 = .ok (.ifCond .ne 5, 3) := by decide +kernel
theorem dX5_price_17 : decode cX5_price 17 = .ok (.iconst (-1), 1) := by decide +kernel
theorem dX5_price_18 : decode cX5_price 18 = .ok (.ireturn, 1) := by decide +kernel
theorem dX5_price_19 : decode cX5_price 19 = .ok (.aload_n 0, 1) := by decide +kernel
theorem dX5_price_20 : decode cX5_price 20 = .ok (.getfield 19, 3) := by decide +kernel
theorem dX5_price_23 : decode cX5_price 23 = .ok (.iload_n 1, 1) := by decide +kernel
theorem dX5_price_24 : decode cX5_price 24 = .ok (.invokevirtual 163, 3) := by decide +kernel
theorem dX5_price_27 : decode cX5_price 27 = .ok (.istore_n 3, 1) := by decide +kernel
theorem dX5_price_28 : decode cX5_price 28 = .ok (.iload_n 1, 1) := by decide +kernel
theorem dX5_price_29 : decode cX5_price 29 = .ok (.iconst 1, 1) := by decide +kernel
theorem dX5_price_30 : decode cX5_price 30 = .ok (.if_icmp .ne 14, 3) := by decide +kernel
theorem dX5_price_33 : decode cX5_price 33 = .ok (.aload_n 0, 1) := by decide +kernel
theorem dX5_price_34 : decode cX5_price 34 = .ok (.getfield 19, 3) := by decide +kernel
theorem dX5_price_37 : decode cX5_price 37 = .ok (.iload_n 2, 1) := by decide +kernel
theorem dX5_price_38 : decode cX5_price 38 = .ok (.putfield 111, 3) := by decide +kernel
theorem dX5_price_41 : decode cX5_price 41 = .ok (.goto 11, 3) := by decide +kernel
theorem dX5_price_44 : decode cX5_price 44 = .ok (.aload_n 0, 1) := by decide +kernel
theorem dX5_price_45 : decode cX5_price 45 = .ok (.getfield 19, 3) := by decide +kernel
theorem dX5_price_48 : decode cX5_price 48 = .ok (.iload_n 2, 1) := by decide +kernel
theorem dX5_price_49 : decode cX5_price 49 = .ok (.putfield 114, 3) := by decide +kernel
theorem dX5_price_52 : decode cX5_price 52 = .ok (.iload_n 3, 1) := by decide +kernel
theorem dX5_price_53 : decode cX5_price 53 = .ok (.ireturn, 1) := by decide +kernel
theorem dX5_steward_0 : decode cX5_steward 0 = .ok (.iload_n 1, 1) := by decide +kernel
theorem dX5_steward_1 : decode cX5_steward 1 = .ok (.iconst 0, 1) := by decide +kernel
theorem dX5_steward_2 : decode cX5_steward 2 = .ok (.iconst 4, 1) := by decide +kernel
theorem dX5_steward_3 : decode cX5_steward 3 = .ok (.invokestatic 55, 3) := by decide +kernel
theorem dX5_steward_6 : decode cX5_steward 6 = .ok (.ifCond .eq 13, 3) := by decide +kernel
theorem dX5_steward_9 : decode cX5_steward 9 = .ok (.iload_n 2, 1) := by decide +kernel
theorem dX5_steward_10 : decode cX5_steward 10 = .ok (.iconst 0, 1) := by decide +kernel
theorem dX5_steward_11 : decode cX5_steward 11 = .ok (.bipush 9, 2) := by decide +kernel
theorem dX5_steward_13 : decode cX5_steward 13 = .ok (.invokestatic 55, 3) := by decide +kernel
theorem dX5_steward_16 : decode cX5_steward 16 = .ok (.ifCond .ne 5, 3) := by decide +kernel
theorem dX5_steward_19 : decode cX5_steward 19 = .ok (.iconst (-1), 1) := by decide +kernel
theorem dX5_steward_20 : decode cX5_steward 20 = .ok (.ireturn, 1) := by decide +kernel
theorem dX5_steward_21 : decode cX5_steward 21 = .ok (.aload_n 0, 1) := by decide +kernel
theorem dX5_steward_22 : decode cX5_steward 22 = .ok (.getfield 19, 3) := by decide +kernel
theorem dX5_steward_25 : decode cX5_steward 25 = .ok (.getfield 117, 3) := by decide +kernel
theorem dX5_steward_28 : decode cX5_steward 28 = .ok (.istore_n 3, 1) := by decide +kernel
theorem dX5_steward_29 : decode cX5_steward 29 = .ok (.aload_n 0, 1) := by decide +kernel
theorem dX5_steward_30 : decode cX5_steward 30 = .ok (.getfield 19, 3) := by decide +kernel
theorem dX5_steward_33 : decode cX5_steward 33 = .ok (.iload_n 1, 1) := by decide +kernel
theorem dX5_steward_34 : decode cX5_steward 34 = .ok (.iload_n 2, 1) := by decide +kernel
theorem dX5_steward_35 : decode cX5_steward 35 = .ok (.invokevirtual 166, 3) := by decide +kernel
theorem dX5_steward_38 : decode cX5_steward 38 = .ok (.iload_n 3, 1) := by decide +kernel
theorem dX5_steward_39 : decode cX5_steward 39 = .ok (.ireturn, 1) := by decide +kernel
theorem dX5_go_0 : decode cX5_go 0 = .ok (.aload_n 0, 1) := by decide +kernel
theorem dX5_go_1 : decode cX5_go 1 = .ok (.getfield 19, 3) := by decide +kernel
theorem dX5_go_4 : decode cX5_go 4 = .ok (.iload_n 1, 1) := by decide +kernel
theorem dX5_go_5 : decode cX5_go 5 = .ok (.iload_n 2, 1) := by decide +kernel
theorem dX5_go_6 : decode cX5_go 6 = .ok (.invokevirtual 170, 3) := by decide +kernel
theorem dX5_go_9 : decode cX5_go 9 = .ok (.ireturn, 1) := by decide +kernel
theorem dX5_year_0 : decode cX5_year 0 = .ok (.iload_n 1, 1) := by decide +kernel
theorem dX5_year_1 : decode cX5_year 1 = .ok (.invokestatic 135, 3) := by decide +kernel
theorem dX5_year_4 : decode cX5_year 4 = .ok (.ifCond .ne 5, 3) := by decide +kernel
theorem dX5_year_7 : decode cX5_year 7 = .ok (.iconst (-1), 1) := by decide +kernel
theorem dX5_year_8 : decode cX5_year 8 = .ok (.ireturn, 1) := by decide +kernel
theorem dX5_year_9 : decode cX5_year 9 = .ok (.aload_n 0, 1) := by decide +kernel
theorem dX5_year_10 : decode cX5_year 10 = .ok (.getfield 19, 3) := by decide +kernel
theorem dX5_year_13 : decode cX5_year 13 = .ok (.invokevirtual 173, 3) := by decide +kernel
theorem dX5_year_16 : decode cX5_year 16 = .ok (.ifCond .eq 8, 3) := by decide +kernel
theorem dX5_year_19 : decode cX5_year 19 = .ok (.bipush (-3), 2) := by decide +kernel
theorem dX5_year_21 : decode cX5_year 21 = .ok (.goto 11, 3) := by decide +kernel
theorem dX5_year_24 : decode cX5_year 24 = .ok (.aload_n 0, 1) := by decide +kernel
theorem dX5_year_25 : decode cX5_year 25 = .ok (.getfield 19, 3) := by decide +kernel
theorem dX5_year_28 : decode cX5_year 28 = .ok (.iload_n 1, 1) := by decide +kernel
theorem dX5_year_29 : decode cX5_year 29 = .ok (.invokevirtual 176, 3) := by decide +kernel
theorem dX5_year_32 : decode cX5_year 32 = .ok (.ireturn, 1) := by decide +kernel
theorem dX5_keeps_0 : decode cX5_keeps 0 = .ok (.iload_n 1, 1) := by decide +kernel
theorem dX5_keeps_1 : decode cX5_keeps 1 = .ok (.iconst 0, 1) := by decide +kernel
theorem dX5_keeps_2 : decode cX5_keeps 2 = .ok (.bipush 99, 2) := by decide +kernel
theorem dX5_keeps_4 : decode cX5_keeps 4 = .ok (.invokestatic 55, 3) := by decide +kernel
theorem dX5_keeps_7 : decode cX5_keeps 7 = .ok (.ifCond .eq 14, 3) := by decide +kernel
theorem dX5_keeps_10 : decode cX5_keeps 10 = .ok (.aload_n 0, 1) := by decide +kernel
theorem dX5_keeps_11 : decode cX5_keeps 11 = .ok (.getfield 19, 3) := by decide +kernel
theorem dX5_keeps_14 : decode cX5_keeps 14 = .ok (.iload_n 1, 1) := by decide +kernel
theorem dX5_keeps_15 : decode cX5_keeps 15 = .ok (.invokevirtual 179, 3) := by decide +kernel
theorem dX5_keeps_18 : decode cX5_keeps 18 = .ok (.goto 4, 3) := by decide +kernel
theorem dX5_keeps_21 : decode cX5_keeps 21 = .ok (.iconst (-1), 1) := by decide +kernel
theorem dX5_keeps_22 : decode cX5_keeps 22 = .ok (.ireturn, 1) := by decide +kernel
theorem dX5_ahead_0 : decode cX5_ahead 0 = .ok (.aload_n 0, 1) := by decide +kernel
theorem dX5_ahead_1 : decode cX5_ahead 1 = .ok (.iload_n 1, 1) := by decide +kernel
theorem dX5_ahead_2 : decode cX5_ahead 2 = .ok (.invokevirtual 142, 3) := by decide +kernel
theorem dX5_ahead_5 : decode cX5_ahead 5 = .ok (.ifCond .eq 22, 3) := by decide +kernel
theorem dX5_ahead_8 : decode cX5_ahead 8 = .ok (.iload_n 2, 1) := by decide +kernel
theorem dX5_ahead_9 : decode cX5_ahead 9 = .ok (.iconst 0, 1) := by decide +kernel
theorem dX5_ahead_10 : decode cX5_ahead 10 = .ok (.bipush 8, 2) := by decide +kernel
theorem dX5_ahead_12 : decode cX5_ahead 12 = .ok (.invokestatic 55, 3) := by decide +kernel
theorem dX5_ahead_15 : decode cX5_ahead 15 = .ok (.ifCond .eq 12, 3) := by decide +kernel
theorem dX5_ahead_18 : decode cX5_ahead 18 = .ok (.iload_n 3, 1) := by decide +kernel
theorem dX5_ahead_19 : decode cX5_ahead 19 = .ok (.iconst 0, 1) := by decide +kernel
theorem dX5_ahead_20 : decode cX5_ahead 20 = .ok (.iconst 2, 1) := by decide +kernel
theorem dX5_ahead_21 : decode cX5_ahead 21 = .ok (.invokestatic 55, 3) := by decide +kernel
theorem dX5_ahead_24 : decode cX5_ahead 24 = .ok (.ifCond .ne 5, 3) := by decide +kernel
theorem dX5_ahead_27 : decode cX5_ahead 27 = .ok (.iconst (-1), 1) := by decide +kernel
theorem dX5_ahead_28 : decode cX5_ahead 28 = .ok (.ireturn, 1) := by decide +kernel
theorem dX5_ahead_29 : decode cX5_ahead 29 = .ok (.aload_n 0, 1) := by decide +kernel
theorem dX5_ahead_30 : decode cX5_ahead 30 = .ok (.getfield 23, 3) := by decide +kernel
theorem dX5_ahead_33 : decode cX5_ahead 33 = .ok (.aload_n 0, 1) := by decide +kernel
theorem dX5_ahead_34 : decode cX5_ahead 34 = .ok (.getfield 19, 3) := by decide +kernel
theorem dX5_ahead_37 : decode cX5_ahead 37 = .ok (.invokevirtual 84, 3) := by decide +kernel
theorem dX5_ahead_40 : decode cX5_ahead 40 = .ok (.aload_n 0, 1) := by decide +kernel
theorem dX5_ahead_41 : decode cX5_ahead 41 = .ok (.getfield 23, 3) := by decide +kernel
theorem dX5_ahead_44 : decode cX5_ahead 44 = .ok (.iload_n 1, 1) := by decide +kernel
theorem dX5_ahead_45 : decode cX5_ahead 45 = .ok (.iload_n 2, 1) := by decide +kernel
theorem dX5_ahead_46 : decode cX5_ahead 46 = .ok (.invokevirtual 182, 3) := by decide +kernel
theorem dX5_ahead_49 : decode cX5_ahead 49 = .ok (.iload_n 3, 1) := by decide +kernel
theorem dX5_ahead_50 : decode cX5_ahead 50 = .ok (.ifCond .ne 11, 3) := by decide +kernel
theorem dX5_ahead_53 : decode cX5_ahead 53 = .ok (.aload_n 0, 1) := by decide +kernel
theorem dX5_ahead_54 : decode cX5_ahead 54 = .ok (.getfield 23, 3) := by decide +kernel
theorem dX5_ahead_57 : decode cX5_ahead 57 = .ok (.getfield 108, 3) := by decide +kernel
theorem dX5_ahead_60 : decode cX5_ahead 60 = .ok (.ireturn, 1) := by decide +kernel
theorem dX5_ahead_61 : decode cX5_ahead 61 = .ok (.iload_n 3, 1) := by decide +kernel
theorem dX5_ahead_62 : decode cX5_ahead 62 = .ok (.iconst 1, 1) := by decide +kernel
theorem dX5_ahead_63 : decode cX5_ahead 63 = .ok (.if_icmp .ne 21, 3) := by decide +kernel
theorem dX5_ahead_66 : decode cX5_ahead 66 = .ok (.aload_n 0, 1) := by decide +kernel
theorem dX5_ahead_67 : decode cX5_ahead 67 = .ok (.getfield 23, 3) := by decide +kernel
theorem dX5_ahead_70 : decode cX5_ahead 70 = .ok (.getfield 126, 3) := by decide +kernel
theorem dX5_ahead_73 : decode cX5_ahead 73 = .ok (.aload_n 0, 1) := by decide +kernel
theorem dX5_ahead_74 : decode cX5_ahead 74 = .ok (.getfield 19, 3) := by decide +kernel
theorem dX5_ahead_77 : decode cX5_ahead 77 = .ok (.getfield 126, 3) := by decide +kernel
theorem dX5_ahead_80 : decode cX5_ahead 80 = .ok (.isub, 1) := by decide +kernel
theorem dX5_ahead_81 : decode cX5_ahead 81 = .ok (.goto 18, 3) := by decide +kernel
theorem dX5_ahead_84 : decode cX5_ahead 84 = .ok (.aload_n 0, 1) := by decide +kernel
theorem dX5_ahead_85 : decode cX5_ahead 85 = .ok (.getfield 23, 3) := by decide +kernel
theorem dX5_ahead_88 : decode cX5_ahead 88 = .ok (.getfield 129, 3) := by decide +kernel
theorem dX5_ahead_91 : decode cX5_ahead 91 = .ok (.aload_n 0, 1) := by decide +kernel
theorem dX5_ahead_92 : decode cX5_ahead 92 = .ok (.getfield 19, 3) := by decide +kernel
theorem dX5_ahead_95 : decode cX5_ahead 95 = .ok (.getfield 129, 3) := by decide +kernel
theorem dX5_ahead_98 : decode cX5_ahead 98 = .ok (.isub, 1) := by decide +kernel
theorem dX5_ahead_99 : decode cX5_ahead 99 = .ok (.ireturn, 1) := by decide +kernel
theorem dX5_when_0 : decode cX5_when 0 = .ok (.aload_n 0, 1) := by decide +kernel
theorem dX5_when_1 : decode cX5_when 1 = .ok (.iload_n 1, 1) := by decide +kernel
theorem dX5_when_2 : decode cX5_when 2 = .ok (.invokevirtual 142, 3) := by decide +kernel
theorem dX5_when_5 : decode cX5_when 5 = .ok (.ifCond .ne 5, 3) := by decide +kernel
theorem dX5_when_8 : decode cX5_when 8 = .ok (.iconst (-1), 1) := by decide +kernel
theorem dX5_when_9 : decode cX5_when 9 = .ok (.ireturn, 1) := by decide +kernel
theorem dX5_when_10 : decode cX5_when 10 = .ok (.aload_n 0, 1) := by decide +kernel
theorem dX5_when_11 : decode cX5_when 11 = .ok (.getfield 23, 3) := by decide +kernel
theorem dX5_when_14 : decode cX5_when 14 = .ok (.aload_n 0, 1) := by decide +kernel
theorem dX5_when_15 : decode cX5_when 15 = .ok (.getfield 19, 3) := by decide +kernel
theorem dX5_when_18 : decode cX5_when 18 = .ok (.invokevirtual 84, 3) := by decide +kernel
theorem dX5_when_21 : decode cX5_when 21 = .ok (.aload_n 0, 1) := by decide +kernel
theorem dX5_when_22 : decode cX5_when 22 = .ok (.getfield 23, 3) := by decide +kernel
theorem dX5_when_25 : decode cX5_when 25 = .ok (.iload_n 1, 1) := by decide +kernel
theorem dX5_when_26 : decode cX5_when 26 = .ok (.invokevirtual 185, 3) := by decide +kernel
theorem dX5_when_29 : decode cX5_when 29 = .ok (.ireturn, 1) := by decide +kernel
theorem dX5_can_0 : decode cX5_can 0 = .ok (.aload_n 0, 1) := by decide +kernel
theorem dX5_can_1 : decode cX5_can 1 = .ok (.getfield 19, 3) := by decide +kernel
theorem dX5_can_4 : decode cX5_can 4 = .ok (.invokevirtual 188, 3) := by decide +kernel
theorem dX5_can_7 : decode cX5_can 7 = .ok (.ireturn, 1) := by decide +kernel
theorem dX5_fat_0 : decode cX5_fat 0 = .ok (.iload_n 1, 1) := by decide +kernel
theorem dX5_fat_1 : decode cX5_fat 1 = .ok (.iconst 0, 1) := by decide +kernel
theorem dX5_fat_2 : decode cX5_fat 2 = .ok (.bipush 7, 2) := by decide +kernel
theorem dX5_fat_4 : decode cX5_fat 4 = .ok (.invokestatic 55, 3) := by decide +kernel
theorem dX5_fat_7 : decode cX5_fat 7 = .ok (.ifCond .eq 10, 3) := by decide +kernel
theorem dX5_fat_10 : decode cX5_fat 10 = .ok (.iload_n 2, 1) := by decide +kernel
theorem dX5_fat_11 : decode cX5_fat 11 = .ok (.invokestatic 135, 3) := by decide +kernel
theorem dX5_fat_14 : decode cX5_fat 14 = .ok (.ifCond .ne 7, 3) := by decide +kernel
theorem dX5_fat_17 : decode cX5_fat 17 = .ok (.ldc2_w 192, 3) := by decide +kernel
theorem dX5_fat_20 : decode cX5_fat 20 = .ok (.lreturn, 1) := by decide +kernel
theorem dX5_fat_21 : decode cX5_fat 21 = .ok (.aload_n 0, 1) := by decide +kernel
theorem dX5_fat_22 : decode cX5_fat 22 = .ok (.getfield 19, 3) := by decide +kernel
theorem dX5_fat_25 : decode cX5_fat 25 = .ok (.invokevirtual 188, 3) := by decide +kernel
theorem dX5_fat_28 : decode cX5_fat 28 = .ok (.istore_n 3, 1) := by decide +kernel
theorem dX5_fat_29 : decode cX5_fat 29 = .ok (.iload_n 3, 1) := by decide +kernel
theorem dX5_fat_30 : decode cX5_fat 30 = .ok (.ifCond .ne 7, 3) := by decide +kernel
theorem dX5_fat_33 : decode cX5_fat 33 = .ok (.ldc2_w 194, 3) := by decide +kernel
theorem dX5_fat_36 : decode cX5_fat 36 = .ok (.lreturn, 1) := by decide +kernel
theorem dX5_fat_37 : decode cX5_fat 37 = .ok (.aload_n 0, 1) := by decide +kernel
theorem dX5_fat_38 : decode cX5_fat 38 = .ok (.getfield 19, 3) := by decide +kernel
theorem dX5_fat_41 : decode cX5_fat 41 = .ok (.iload_n 3, 1) := by decide +kernel
theorem dX5_fat_42 : decode cX5_fat 42 = .ok (.iload_n 1, 1) := by decide +kernel
theorem dX5_fat_43 : decode cX5_fat 43 = .ok (.iconst 1, 1) := by decide +kernel
theorem dX5_fat_44 : decode cX5_fat 44 = .ok (.invokevirtual 196, 3) := by decide +kernel
theorem dX5_fat_47 : decode cX5_fat 47 = .ok (.istore 4, 2) := by decide +kernel
theorem dX5_fat_49 : decode cX5_fat 49 = .ok (.aload_n 0, 1) := by decide +kernel
theorem dX5_fat_50 : decode cX5_fat 50 = .ok (.getfield 19, 3) := by decide +kernel
theorem dX5_fat_53 : decode cX5_fat 53 = .ok (.iload 4, 2) := by decide +kernel
theorem dX5_fat_55 : decode cX5_fat 55 = .ok (.invokevirtual 200, 3) := by decide +kernel
theorem dX5_fat_58 : decode cX5_fat 58 = .ok (.aload_n 0, 1) := by decide +kernel
theorem dX5_fat_59 : decode cX5_fat 59 = .ok (.getfield 19, 3) := by decide +kernel
theorem dX5_fat_62 : decode cX5_fat 62 = .ok (.iload_n 3, 1) := by decide +kernel
theorem dX5_fat_63 : decode cX5_fat 63 = .ok (.invokevirtual 200, 3) := by decide +kernel
theorem dX5_fat_66 : decode cX5_fat 66 = .ok (.iload_n 2, 1) := by decide +kernel
theorem dX5_fat_67 : decode cX5_fat 67 = .ok (.invokestatic 203, 3) := by decide +kernel
theorem dX5_fat_70 : decode cX5_fat 70 = .ok (.lreturn, 1) := by decide +kernel
theorem dX5_best_0 : decode cX5_best 0 = .ok (.iload_n 1, 1) := by decide +kernel
theorem dX5_best_1 : decode cX5_best 1 = .ok (.iconst 0, 1) := by decide +kernel
theorem dX5_best_2 : decode cX5_best 2 = .ok (.iconst 5, 1) := by decide +kernel
theorem dX5_best_3 : decode cX5_best 3 = .ok (.invokestatic 55, 3) := by decide +kernel
theorem dX5_best_6 : decode cX5_best 6 = .ok (.ifCond .eq 10, 3) := by decide +kernel
theorem dX5_best_9 : decode cX5_best 9 = .ok (.iload_n 2, 1) := by decide +kernel
theorem dX5_best_10 : decode cX5_best 10 = .ok (.invokestatic 135, 3) := by decide +kernel
theorem dX5_best_13 : decode cX5_best 13 = .ok (.ifCond .ne 7, 3) := by decide +kernel
theorem dX5_best_16 : decode cX5_best 16 = .ok (.ldc2_w 192, 3) := by decide +kernel
theorem dX5_best_19 : decode cX5_best 19 = .ok (.lreturn, 1) := by decide +kernel
theorem dX5_best_20 : decode cX5_best 20 = .ok (.aload_n 0, 1) := by decide +kernel
theorem dX5_best_21 : decode cX5_best 21 = .ok (.getfield 19, 3) := by decide +kernel
theorem dX5_best_24 : decode cX5_best 24 = .ok (.invokevirtual 188, 3) := by decide +kernel
theorem dX5_best_27 : decode cX5_best 27 = .ok (.istore_n 3, 1) := by decide +kernel
theorem dX5_best_28 : decode cX5_best 28 = .ok (.iload_n 3, 1) := by decide +kernel
theorem dX5_best_29 : decode cX5_best 29 = .ok (.ifCond .ne 7, 3) := by decide +kernel
theorem dX5_best_32 : decode cX5_best 32 = .ok (.ldc2_w 194, 3) := by decide +kernel
theorem dX5_best_35 : decode cX5_best 35 = .ok (.lreturn, 1) := by decide +kernel
theorem dX5_best_36 : decode cX5_best 36 = .ok (.aload_n 0, 1) := by decide +kernel
theorem dX5_best_37 : decode cX5_best 37 = .ok (.getfield 29, 3) := by decide +kernel
theorem dX5_best_40 : decode cX5_best 40 = .ok (.aload_n 0, 1) := by decide +kernel
theorem dX5_best_41 : decode cX5_best 41 = .ok (.getfield 19, 3) := by decide +kernel
theorem dX5_best_44 : decode cX5_best 44 = .ok (.iload_n 1, 1) := by decide +kernel
theorem dX5_best_45 : decode cX5_best 45 = .ok (.iload_n 3, 1) := by decide +kernel
theorem dX5_best_46 : decode cX5_best 46 = .ok (.invokevirtual 207, 3) := by decide +kernel
theorem dX5_best_49 : decode cX5_best 49 = .ok (.aload_n 0, 1) := by decide +kernel
theorem dX5_best_50 : decode cX5_best 50 = .ok (.getfield 19, 3) := by decide +kernel
theorem dX5_best_53 : decode cX5_best 53 = .ok (.iload_n 3, 1) := by decide +kernel
theorem dX5_best_54 : decode cX5_best 54 = .ok (.invokevirtual 200, 3) := by decide +kernel
theorem dX5_best_57 : decode cX5_best 57 = .ok (.iload_n 2, 1) := by decide +kernel
theorem dX5_best_58 : decode cX5_best 58 = .ok (.invokestatic 203, 3) := by decide +kernel
theorem dX5_best_61 : decode cX5_best 61 = .ok (.lreturn, 1) := by decide +kernel
theorem dX5_choice_0 : decode cX5_choice 0 = .ok (.iload_n 1, 1) := by decide +kernel
theorem dX5_choice_1 : decode cX5_choice 1 = .ok (.iconst 1, 1) := by decide +kernel
theorem dX5_choice_2 : decode cX5_choice 2 = .ok (.iconst 5, 1) := by decide +kernel
theorem dX5_choice_3 : decode cX5_choice 3 = .ok (.invokestatic 55, 3) := by decide +kernel
theorem dX5_choice_6 : decode cX5_choice 6 = .ok (.ifCond .eq 10, 3) := by decide +kernel
theorem dX5_choice_9 : decode cX5_choice 9 = .ok (.iload_n 2, 1) := by decide +kernel
theorem dX5_choice_10 : decode cX5_choice 10 = .ok (.invokestatic 135, 3) := by decide +kernel
theorem dX5_choice_13 : decode cX5_choice 13 = .ok (.ifCond .ne 5, 3) := by decide +kernel
theorem dX5_choice_16 : decode cX5_choice 16 = .ok (.iconst (-1), 1) := by decide +kernel
theorem dX5_choice_17 : decode cX5_choice 17 = .ok (.ireturn, 1) := by decide +kernel
theorem dX5_choice_18 : decode cX5_choice 18 = .ok (.aload_n 0, 1) := by decide +kernel
theorem dX5_choice_19 : decode cX5_choice 19 = .ok (.getfield 19, 3) := by decide +kernel
theorem dX5_choice_22 : decode cX5_choice 22 = .ok (.invokevirtual 188, 3) := by decide +kernel
theorem dX5_choice_25 : decode cX5_choice 25 = .ok (.istore_n 3, 1) := by decide +kernel
theorem dX5_choice_26 : decode cX5_choice 26 = .ok (.iload_n 3, 1) := by decide +kernel
theorem dX5_choice_27 : decode cX5_choice 27 = .ok (.ifCond .eq 13, 3) := by decide +kernel
theorem dX5_choice_30 : decode cX5_choice 30 = .ok (.aload_n 0, 1) := by decide +kernel
theorem dX5_choice_31 : decode cX5_choice 31 = .ok (.getfield 19, 3) := by decide +kernel
theorem dX5_choice_34 : decode cX5_choice 34 = .ok (.invokevirtual 173, 3) := by decide +kernel
theorem dX5_choice_37 : decode cX5_choice 37 = .ok (.ifCond .eq 6, 3) := by decide +kernel
theorem dX5_choice_40 : decode cX5_choice 40 = .ok (.bipush (-2), 2) := by decide +kernel
theorem dX5_choice_42 : decode cX5_choice 42 = .ok (.ireturn, 1) := by decide +kernel
theorem dX5_choice_43 : decode cX5_choice 43 = .ok (.aload_n 0, 1) := by decide +kernel
theorem dX5_choice_44 : decode cX5_choice 44 = .ok (.getfield 19, 3) := by decide +kernel
theorem dX5_choice_47 : decode cX5_choice 47 = .ok (.iload_n 3, 1) := by decide +kernel
theorem dX5_choice_48 : decode cX5_choice 48 = .ok (.aload_n 0, 1) := by decide +kernel
theorem dX5_choice_49 : decode cX5_choice 49 = .ok (.getfield 19, 3) := by decide +kernel
theorem dX5_choice_52 : decode cX5_choice 52 = .ok (.getfield 123, 3) := by decide +kernel
theorem dX5_choice_55 : decode cX5_choice 55 = .ok (.iload_n 2, 1) := by decide +kernel
theorem dX5_choice_56 : decode cX5_choice 56 = .ok (.invokevirtual 196, 3) := by decide +kernel
theorem dX5_choice_59 : decode cX5_choice 59 = .ok (.istore 4, 2) := by decide +kernel
theorem dX5_choice_61 : decode cX5_choice 61 = .ok (.iload 4, 2) := by decide +kernel
theorem dX5_choice_63 : decode cX5_choice 63 = .ok (.ifCond .ne 8, 3) := by decide +kernel
theorem dX5_choice_66 : decode cX5_choice 66 = .ok (.bipush (-4), 2) := by decide +kernel
theorem dX5_choice_68 : decode cX5_choice 68 = .ok (.goto 18, 3) := by decide +kernel
theorem dX5_choice_71 : decode cX5_choice 71 = .ok (.aload_n 0, 1) := by decide +kernel
theorem dX5_choice_72 : decode cX5_choice 72 = .ok (.getfield 29, 3) := by decide +kernel
theorem dX5_choice_75 : decode cX5_choice 75 = .ok (.aload_n 0, 1) := by decide +kernel
theorem dX5_choice_76 : decode cX5_choice 76 = .ok (.getfield 19, 3) := by decide +kernel
theorem dX5_choice_79 : decode cX5_choice 79 = .ok (.iload_n 1, 1) := by decide +kernel
theorem dX5_choice_80 : decode cX5_choice 80 = .ok (.iload 4, 2) := by decide +kernel
theorem dX5_choice_82 : decode cX5_choice 82 = .ok (.iload_n 2, 1) := by decide +kernel
theorem dX5_choice_83 : decode cX5_choice 83 = .ok (.invokevirtual 211, 3) := by decide +kernel
theorem dX5_choice_86 : decode cX5_choice 86 = .ok (.ireturn, 1) := by decide +kernel
theorem dX5_knowing_0 : decode cX5_knowing 0 = .ok (.iload_n 1, 1) := by decide +kernel
theorem dX5_knowing_1 : decode cX5_knowing 1 = .ok (.iconst 0, 1) := by decide +kernel
theorem dX5_knowing_2 : decode cX5_knowing 2 = .ok (.iconst 5, 1) := by decide +kernel
theorem dX5_knowing_3 : decode cX5_knowing 3 = .ok (.invokestatic 55, 3) := by decide +kernel
theorem dX5_knowing_6 : decode cX5_knowing 6 = .ok (.ifCond .eq 10, 3) := by decide +kernel
theorem dX5_knowing_9 : decode cX5_knowing 9 = .ok (.iload_n 2, 1) := by decide +kernel
theorem dX5_knowing_10 : decode cX5_knowing 10 = .ok (.invokestatic 135, 3) := by decide +kernel
theorem dX5_knowing_13 : decode cX5_knowing 13 = .ok (.ifCond .ne 7, 3) := by decide +kernel
theorem dX5_knowing_16 : decode cX5_knowing 16 = .ok (.ldc2_w 192, 3) := by decide +kernel
theorem dX5_knowing_19 : decode cX5_knowing 19 = .ok (.lreturn, 1) := by decide +kernel
theorem dX5_knowing_20 : decode cX5_knowing 20 = .ok (.aload_n 0, 1) := by decide +kernel
theorem dX5_knowing_21 : decode cX5_knowing 21 = .ok (.getfield 19, 3) := by decide +kernel
theorem dX5_knowing_24 : decode cX5_knowing 24 = .ok (.invokevirtual 188, 3) := by decide +kernel
theorem dX5_knowing_27 : decode cX5_knowing 27 = .ok (.istore_n 3, 1) := by decide +kernel
theorem dX5_knowing_28 : decode cX5_knowing 28 = .ok (.iload_n 3, 1) := by decide +kernel
theorem dX5_knowing_29 : decode cX5_knowing 29 = .ok (.ifCond .ne 7, 3) := by decide +kernel
theorem dX5_knowing_32 : decode cX5_knowing 32 = .ok (.ldc2_w 194, 3) := by decide +kernel
theorem dX5_knowing_35 : decode cX5_knowing 35 = .ok (.lreturn, 1) := by decide +kernel
theorem dX5_knowing_36 : decode cX5_knowing 36 = .ok (.iconst 0, 1) := by decide +kernel
theorem dX5_knowing_37 : decode cX5_knowing 37 = .ok (.istore 4, 2) := by decide +kernel
theorem dX5_knowing_39 : decode cX5_knowing 39 = .ok (.iconst 0, 1) := by decide +kernel
theorem dX5_knowing_40 : decode cX5_knowing 40 = .ok (.istore 5, 2) := by decide +kernel
theorem dX5_knowing_42 : decode cX5_knowing 42 = .ok (.iload 5, 2) := by decide +kernel
theorem dX5_knowing_44 : decode cX5_knowing 44 = .ok (.aload_n 0, 1) := by decide +kernel
theorem dX5_knowing_45 : decode cX5_knowing 45 = .ok (.getfield 19, 3) := by decide +kernel
theorem dX5_knowing_48 : decode cX5_knowing 48 = .ok (.getfield 93, 3) := by decide +kernel
theorem dX5_knowing_51 : decode cX5_knowing 51 = .ok (.if_icmp .ge 39, 3) := by decide +kernel
theorem dX5_knowing_54 : decode cX5_knowing 54 = .ok (.iload_n 3, 1) := by decide +kernel
theorem dX5_knowing_55 : decode cX5_knowing 55 = .ok (.iload 5, 2) := by decide +kernel
theorem dX5_knowing_57 : decode cX5_knowing 57 = .ok (.invokestatic 215, 3) := by decide +kernel
theorem dX5_knowing_60 : decode cX5_knowing 60 = .ok (.ifCond .eq 24, 3) := by decide +kernel
theorem dX5_knowing_63 : decode cX5_knowing 63 = .ok (.iload 4, 2) := by decide +kernel
theorem dX5_knowing_65 : decode cX5_knowing 65 = .ok (.aload_n 0, 1) := by decide +kernel
theorem dX5_knowing_66 : decode cX5_knowing 66 = .ok (.getfield 29, 3) := by decide +kernel
theorem dX5_knowing_69 : decode cX5_knowing 69 = .ok (.aload_n 0, 1) := by decide +kernel
theorem dX5_knowing_70 : decode cX5_knowing 70 = .ok (.getfield 19, 3) := by decide +kernel
theorem dX5_knowing_73 : decode cX5_knowing 73 = .ok (.iload_n 1, 1) := by decide +kernel
theorem dX5_knowing_74 : decode cX5_knowing 74 = .ok (.iconst 1, 1) := by decide +kernel
theorem dX5_knowing_75 : decode cX5_knowing 75 = .ok (.iload 5, 2) := by decide +kernel
theorem dX5_knowing_77 : decode cX5_knowing 77 = .ok (.ishl, 1) := by decide +kernel
theorem dX5_knowing_78 : decode cX5_knowing 78 = .ok (.invokevirtual 207, 3) := by decide +kernel
theorem dX5_knowing_81 : decode cX5_knowing 81 = .ok (.iadd, 1) := by decide +kernel
theorem dX5_knowing_82 : decode cX5_knowing 82 = .ok (.istore 4, 2) := by decide +kernel
theorem dX5_knowing_84 : decode cX5_knowing 84 = .ok (.iinc 5 1, 3) := by decide +kernel
theorem dX5_knowing_87 : decode cX5_knowing 87 = .ok (.goto (-45), 3) := by decide +kernel
theorem dX5_knowing_90 : decode cX5_knowing 90 = .ok (.aload_n 0, 1) := by decide +kernel
theorem dX5_knowing_91 : decode cX5_knowing 91 = .ok (.getfield 29, 3) := by decide +kernel
theorem dX5_knowing_94 : decode cX5_knowing 94 = .ok (.aload_n 0, 1) := by decide +kernel
theorem dX5_knowing_95 : decode cX5_knowing 95 = .ok (.getfield 19, 3) := by decide +kernel
theorem dX5_knowing_98 : decode cX5_knowing 98 = .ok (.iload_n 1, 1) := by decide +kernel
theorem dX5_knowing_99 : decode cX5_knowing 99 = .ok (.iload_n 3, 1) := by decide +kernel
theorem dX5_knowing_100 : decode cX5_knowing 100 = .ok (.invokevirtual 207, 3) := by decide +kernel
theorem dX5_knowing_103 : decode cX5_knowing 103 = .ok (.istore 5, 2) := by decide +kernel
theorem dX5_knowing_105 : decode cX5_knowing 105 = .ok (.iload 4, 2) := by decide +kernel
theorem dX5_knowing_107 : decode cX5_knowing 107 = .ok (.iload 5, 2) := by decide +kernel
theorem dX5_knowing_109 : decode cX5_knowing 109 = .ok (.isub, 1) := by decide +kernel
theorem dX5_knowing_110 : decode cX5_knowing 110 = .ok (.aload_n 0, 1) := by decide +kernel
theorem dX5_knowing_111 : decode cX5_knowing 111 = .ok (.getfield 19, 3) := by decide +kernel
theorem dX5_knowing_114 : decode cX5_knowing 114 = .ok (.iload_n 3, 1) := by decide +kernel
theorem dX5_knowing_115 : decode cX5_knowing 115 = .ok (.invokevirtual 200, 3) := by decide +kernel
theorem dX5_knowing_118 : decode cX5_knowing 118 = .ok (.iload_n 2, 1) := by decide +kernel
theorem dX5_knowing_119 : decode cX5_knowing 119 = .ok (.invokestatic 203, 3) := by decide +kernel
theorem dX5_knowing_122 : decode cX5_knowing 122 = .ok (.lreturn, 1) := by decide +kernel
theorem dX5_worth_0 : decode cX5_worth 0 = .ok (.aload_n 0, 1) := by decide +kernel
theorem dX5_worth_1 : decode cX5_worth 1 = .ok (.iload_n 1, 1) := by decide +kernel
theorem dX5_worth_2 : decode cX5_worth 2 = .ok (.invokevirtual 132, 3) := by decide +kernel
theorem dX5_worth_5 : decode cX5_worth 5 = .ok (.ifCond .eq 19, 3) := by decide +kernel
theorem dX5_worth_8 : decode cX5_worth 8 = .ok (.iload_n 2, 1) := by decide +kernel
theorem dX5_worth_9 : decode cX5_worth 9 = .ok (.iconst 0, 1) := by decide +kernel
theorem dX5_worth_10 : decode cX5_worth 10 = .ok (.iconst 5, 1) := by decide +kernel
theorem dX5_worth_11 : decode cX5_worth 11 = .ok (.invokestatic 55, 3) := by decide +kernel
theorem dX5_worth_14 : decode cX5_worth 14 = .ok (.ifCond .eq 10, 3) := by decide +kernel
theorem dX5_worth_17 : decode cX5_worth 17 = .ok (.iload_n 3, 1) := by decide +kernel
theorem dX5_worth_18 : decode cX5_worth 18 = .ok (.invokestatic 135, 3) := by decide +kernel
theorem dX5_worth_21 : decode cX5_worth 21 = .ok (.ifCond .ne 7, 3) := by decide +kernel
theorem dX5_worth_24 : decode cX5_worth 24 = .ok (.ldc2_w 192, 3) := by decide +kernel
theorem dX5_worth_27 : decode cX5_worth 27 = .ok (.lreturn, 1) := by decide +kernel
theorem dX5_worth_28 : decode cX5_worth 28 = .ok (.aload_n 0, 1) := by decide +kernel
theorem dX5_worth_29 : decode cX5_worth 29 = .ok (.getfield 19, 3) := by decide +kernel
theorem dX5_worth_32 : decode cX5_worth 32 = .ok (.invokevirtual 188, 3) := by decide +kernel
theorem dX5_worth_35 : decode cX5_worth 35 = .ok (.istore 4, 2) := by decide +kernel
theorem dX5_worth_37 : decode cX5_worth 37 = .ok (.iload 4, 2) := by decide +kernel
theorem dX5_worth_39 : decode cX5_worth 39 = .ok (.ifCond .ne 7, 3) := by decide +kernel
theorem dX5_worth_42 : decode cX5_worth 42 = .ok (.ldc2_w 194, 3) := by decide +kernel
theorem dX5_worth_45 : decode cX5_worth 45 = .ok (.lreturn, 1) := by decide +kernel
theorem dX5_worth_46 : decode cX5_worth 46 = .ok (.aload_n 0, 1) := by decide +kernel
theorem dX5_worth_47 : decode cX5_worth 47 = .ok (.getfield 23, 3) := by decide +kernel
theorem dX5_worth_50 : decode cX5_worth 50 = .ok (.aload_n 0, 1) := by decide +kernel
theorem dX5_worth_51 : decode cX5_worth 51 = .ok (.getfield 19, 3) := by decide +kernel
theorem dX5_worth_54 : decode cX5_worth 54 = .ok (.invokevirtual 84, 3) := by decide +kernel
theorem dX5_worth_57 : decode cX5_worth 57 = .ok (.aload_n 0, 1) := by decide +kernel
theorem dX5_worth_58 : decode cX5_worth 58 = .ok (.getfield 23, 3) := by decide +kernel
theorem dX5_worth_61 : decode cX5_worth 61 = .ok (.iconst 0, 1) := by decide +kernel
theorem dX5_worth_62 : decode cX5_worth 62 = .ok (.invokevirtual 138, 3) := by decide +kernel
theorem dX5_worth_65 : decode cX5_worth 65 = .ok (.iload_n 1, 1) := by decide +kernel
theorem dX5_worth_66 : decode cX5_worth 66 = .ok (.iconst 0, 1) := by decide +kernel
theorem dX5_worth_67 : decode cX5_worth 67 = .ok (.iastore, 1) := by decide +kernel
theorem dX5_worth_68 : decode cX5_worth 68 = .ok (.aload_n 0, 1) := by decide +kernel
theorem dX5_worth_69 : decode cX5_worth 69 = .ok (.getfield 23, 3) := by decide +kernel
theorem dX5_worth_72 : decode cX5_worth 72 = .ok (.iconst 1, 1) := by decide +kernel
theorem dX5_worth_73 : decode cX5_worth 73 = .ok (.invokevirtual 138, 3) := by decide +kernel
theorem dX5_worth_76 : decode cX5_worth 76 = .ok (.iload_n 1, 1) := by decide +kernel
theorem dX5_worth_77 : decode cX5_worth 77 = .ok (.iconst 0, 1) := by decide +kernel
theorem dX5_worth_78 : decode cX5_worth 78 = .ok (.iastore, 1) := by decide +kernel
theorem dX5_worth_79 : decode cX5_worth 79 = .ok (.aload_n 0, 1) := by decide +kernel
theorem dX5_worth_80 : decode cX5_worth 80 = .ok (.getfield 29, 3) := by decide +kernel
theorem dX5_worth_83 : decode cX5_worth 83 = .ok (.aload_n 0, 1) := by decide +kernel
theorem dX5_worth_84 : decode cX5_worth 84 = .ok (.getfield 19, 3) := by decide +kernel
theorem dX5_worth_87 : decode cX5_worth 87 = .ok (.iload_n 2, 1) := by decide +kernel
theorem dX5_worth_88 : decode cX5_worth 88 = .ok (.iload 4, 2) := by decide +kernel
theorem dX5_worth_90 : decode cX5_worth 90 = .ok (.invokevirtual 207, 3) := by decide +kernel
theorem dX5_worth_93 : decode cX5_worth 93 = .ok (.istore 5, 2) := by decide +kernel
theorem dX5_worth_95 : decode cX5_worth 95 = .ok (.aload_n 0, 1) := by decide +kernel
theorem dX5_worth_96 : decode cX5_worth 96 = .ok (.getfield 29, 3) := by decide +kernel
theorem dX5_worth_99 : decode cX5_worth 99 = .ok (.aload_n 0, 1) := by decide +kernel
theorem dX5_worth_100 : decode cX5_worth 100 = .ok (.getfield 23, 3) := by decide +kernel
theorem dX5_worth_103 : decode cX5_worth 103 = .ok (.iload_n 2, 1) := by decide +kernel
theorem dX5_worth_104 : decode cX5_worth 104 = .ok (.iload 4, 2) := by decide +kernel
theorem dX5_worth_106 : decode cX5_worth 106 = .ok (.invokevirtual 207, 3) := by decide +kernel
theorem dX5_worth_109 : decode cX5_worth 109 = .ok (.istore 6, 2) := by decide +kernel
theorem dX5_worth_111 : decode cX5_worth 111 = .ok (.iload 5, 2) := by decide +kernel
theorem dX5_worth_113 : decode cX5_worth 113 = .ok (.iload 6, 2) := by decide +kernel
theorem dX5_worth_115 : decode cX5_worth 115 = .ok (.isub, 1) := by decide +kernel
theorem dX5_worth_116 : decode cX5_worth 116 = .ok (.aload_n 0, 1) := by decide +kernel
theorem dX5_worth_117 : decode cX5_worth 117 = .ok (.getfield 19, 3) := by decide +kernel
theorem dX5_worth_120 : decode cX5_worth 120 = .ok (.iload 4, 2) := by decide +kernel
theorem dX5_worth_122 : decode cX5_worth 122 = .ok (.invokevirtual 200, 3) := by decide +kernel
theorem dX5_worth_125 : decode cX5_worth 125 = .ok (.iload_n 3, 1) := by decide +kernel
theorem dX5_worth_126 : decode cX5_worth 126 = .ok (.invokestatic 203, 3) := by decide +kernel
theorem dX5_worth_129 : decode cX5_worth 129 = .ok (.lreturn, 1) := by decide +kernel
theorem dX5_safe_0 : decode cX5_safe 0 = .ok (.iload_n 1, 1) := by decide +kernel
theorem dX5_safe_1 : decode cX5_safe 1 = .ok (.iconst 0, 1) := by decide +kernel
theorem dX5_safe_2 : decode cX5_safe 2 = .ok (.iconst 4, 1) := by decide +kernel
theorem dX5_safe_3 : decode cX5_safe 3 = .ok (.invokestatic 55, 3) := by decide +kernel
theorem dX5_safe_6 : decode cX5_safe 6 = .ok (.ifCond .ne 5, 3) := by decide +kernel
theorem dX5_safe_9 : decode cX5_safe 9 = .ok (.iconst (-1), 1) := by decide +kernel
theorem dX5_safe_10 : decode cX5_safe 10 = .ok (.ireturn, 1) := by decide +kernel
theorem dX5_safe_11 : decode cX5_safe 11 = .ok (.iconst 0, 1) := by decide +kernel
theorem dX5_safe_12 : decode cX5_safe 12 = .ok (.istore_n 2, 1) := by decide +kernel
theorem dX5_safe_13 : decode cX5_safe 13 = .ok (.iconst 0, 1) := by decide +kernel
theorem dX5_safe_14 : decode cX5_safe 14 = .ok (.istore_n 3, 1) := by decide +kernel
theorem dX5_safe_15 : decode cX5_safe 15 = .ok (.iload_n 3, 1) := by decide +kernel
theorem dX5_safe_16 : decode cX5_safe 16 = .ok (.bipush 9, 2) := by decide +kernel
theorem dX5_safe_18 : decode cX5_safe 18 = .ok (.if_icmp .gt 38, 3) := by decide +kernel
theorem dX5_safe_21 : decode cX5_safe 21 = .ok (.aload_n 0, 1) := by decide +kernel
theorem dX5_safe_22 : decode cX5_safe 22 = .ok (.iload_n 1, 1) := by decide +kernel
theorem dX5_safe_23 : decode cX5_safe 23 = .ok (.iload_n 3, 1) := by decide +kernel
theorem dX5_safe_24 : decode cX5_safe 24 = .ok (.aload_n 0, 1) := by decide +kernel
theorem dX5_safe_25 : decode cX5_safe 25 = .ok (.getfield 19, 3) := by decide +kernel
theorem dX5_safe_28 : decode cX5_safe 28 = .ok (.getfield 102, 3) := by decide +kernel
theorem dX5_safe_31 : decode cX5_safe 31 = .ok (.aload_n 0, 1) := by decide +kernel
theorem dX5_safe_32 : decode cX5_safe 32 = .ok (.getfield 19, 3) := by decide +kernel
theorem dX5_safe_35 : decode cX5_safe 35 = .ok (.getfield 108, 3) := by decide +kernel
theorem dX5_safe_38 : decode cX5_safe 38 = .ok (.invokevirtual 219, 3) := by decide +kernel
theorem dX5_safe_41 : decode cX5_safe 41 = .ok (.ifCond .eq 9, 3) := by decide +kernel
theorem dX5_safe_44 : decode cX5_safe 44 = .ok (.iload_n 2, 1) := by decide +kernel
theorem dX5_safe_45 : decode cX5_safe 45 = .ok (.iconst 1, 1) := by decide +kernel
theorem dX5_safe_46 : decode cX5_safe 46 = .ok (.iload_n 3, 1) := by decide +kernel
theorem dX5_safe_47 : decode cX5_safe 47 = .ok (.ishl, 1) := by decide +kernel
theorem dX5_safe_48 : decode cX5_safe 48 = .ok (.ior, 1) := by decide +kernel
theorem dX5_safe_49 : decode cX5_safe 49 = .ok (.istore_n 2, 1) := by decide +kernel
theorem dX5_safe_50 : decode cX5_safe 50 = .ok (.iinc 3 1, 3) := by decide +kernel
theorem dX5_safe_53 : decode cX5_safe 53 = .ok (.goto (-38), 3) := by decide +kernel
theorem dX5_safe_56 : decode cX5_safe 56 = .ok (.iload_n 2, 1) := by decide +kernel
theorem dX5_safe_57 : decode cX5_safe 57 = .ok (.ireturn, 1) := by decide +kernel
theorem dX5_granary_0 : decode cX5_granary 0 = .ok (.aload_n 0, 1) := by decide +kernel
theorem dX5_granary_1 : decode cX5_granary 1 = .ok (.getfield 19, 3) := by decide +kernel
theorem dX5_granary_4 : decode cX5_granary 4 = .ok (.getfield 108, 3) := by decide +kernel
theorem dX5_granary_7 : decode cX5_granary 7 = .ok (.istore_n 1, 1) := by decide +kernel
theorem dX5_granary_8 : decode cX5_granary 8 = .ok (.iload_n 1, 1) := by decide +kernel
theorem dX5_granary_9 : decode cX5_granary 9 = .ok (.bipush 40, 2) := by decide +kernel
theorem dX5_granary_11 : decode cX5_granary 11 = .ok (.if_icmp .gt 28, 3) := by decide +kernel
theorem dX5_granary_14 : decode cX5_granary 14 = .ok (.aload_n 0, 1) := by decide +kernel
theorem dX5_granary_15 : decode cX5_granary 15 = .ok (.iconst 0, 1) := by decide +kernel
theorem dX5_granary_16 : decode cX5_granary 16 = .ok (.iconst 0, 1) := by decide +kernel
theorem dX5_granary_17 : decode cX5_granary 17 = .ok (.iload_n 1, 1) := by decide +kernel
theorem dX5_granary_18 : decode cX5_granary 18 = .ok (.aload_n 0, 1) := by decide +kernel
theorem dX5_granary_19 : decode cX5_granary 19 = .ok (.getfield 19, 3) := by decide +kernel
theorem dX5_granary_22 : decode cX5_granary 22 = .ok (.getfield 108, 3) := by decide +kernel
theorem dX5_granary_25 : decode cX5_granary 25 = .ok (.invokevirtual 219, 3) := by decide +kernel
theorem dX5_granary_28 : decode cX5_granary 28 = .ok (.ifCond .eq 5, 3) := by decide +kernel
theorem dX5_granary_31 : decode cX5_granary 31 = .ok (.iload_n 1, 1) := by decide +kernel
theorem dX5_granary_32 : decode cX5_granary 32 = .ok (.ireturn, 1) := by decide +kernel
theorem dX5_granary_33 : decode cX5_granary 33 = .ok (.iinc 1 1, 3) := by decide +kernel
theorem dX5_granary_36 : decode cX5_granary 36 = .ok (.goto (-28), 3) := by decide +kernel
theorem dX5_granary_39 : decode cX5_granary 39 = .ok (.bipush (-4), 2) := by decide +kernel
theorem dX5_granary_41 : decode cX5_granary 41 = .ok (.ireturn, 1) := by decide +kernel
theorem dX5_least_0 : decode cX5_least 0 = .ok (.iconst 0, 1) := by decide +kernel
theorem dX5_least_1 : decode cX5_least 1 = .ok (.istore_n 1, 1) := by decide +kernel
theorem dX5_least_2 : decode cX5_least 2 = .ok (.iload_n 1, 1) := by decide +kernel
theorem dX5_least_3 : decode cX5_least 3 = .ok (.aload_n 0, 1) := by decide +kernel
theorem dX5_least_4 : decode cX5_least 4 = .ok (.getfield 19, 3) := by decide +kernel
theorem dX5_least_7 : decode cX5_least 7 = .ok (.getfield 102, 3) := by decide +kernel
theorem dX5_least_10 : decode cX5_least 10 = .ok (.if_icmp .gt 40, 3) := by decide +kernel
theorem dX5_least_13 : decode cX5_least 13 = .ok (.aload_n 0, 1) := by decide +kernel
theorem dX5_least_14 : decode cX5_least 14 = .ok (.aload_n 0, 1) := by decide +kernel
theorem dX5_least_15 : decode cX5_least 15 = .ok (.getfield 19, 3) := by decide +kernel
theorem dX5_least_18 : decode cX5_least 18 = .ok (.getfield 117, 3) := by decide +kernel
theorem dX5_least_21 : decode cX5_least 21 = .ok (.aload_n 0, 1) := by decide +kernel
theorem dX5_least_22 : decode cX5_least 22 = .ok (.getfield 19, 3) := by decide +kernel
theorem dX5_least_25 : decode cX5_least 25 = .ok (.getfield 120, 3) := by decide +kernel
theorem dX5_least_28 : decode cX5_least 28 = .ok (.aload_n 0, 1) := by decide +kernel
theorem dX5_least_29 : decode cX5_least 29 = .ok (.getfield 19, 3) := by decide +kernel
theorem dX5_least_32 : decode cX5_least 32 = .ok (.getfield 102, 3) := by decide +kernel
theorem dX5_least_35 : decode cX5_least 35 = .ok (.iload_n 1, 1) := by decide +kernel
theorem dX5_least_36 : decode cX5_least 36 = .ok (.invokevirtual 219, 3) := by decide +kernel
theorem dX5_least_39 : decode cX5_least 39 = .ok (.ifCond .eq 5, 3) := by decide +kernel
theorem dX5_least_42 : decode cX5_least 42 = .ok (.iload_n 1, 1) := by decide +kernel
theorem dX5_least_43 : decode cX5_least 43 = .ok (.ireturn, 1) := by decide +kernel
theorem dX5_least_44 : decode cX5_least 44 = .ok (.iinc 1 1, 3) := by decide +kernel
theorem dX5_least_47 : decode cX5_least 47 = .ok (.goto (-45), 3) := by decide +kernel
theorem dX5_least_50 : decode cX5_least 50 = .ok (.bipush (-4), 2) := by decide +kernel
theorem dX5_least_52 : decode cX5_least 52 = .ok (.ireturn, 1) := by decide +kernel
theorem dX5_see_0 : decode cX5_see 0 = .ok (.iload_n 1, 1) := by decide +kernel
theorem dX5_see_1 : decode cX5_see 1 = .ok (.iconst 1, 1) := by decide +kernel
theorem dX5_see_2 : decode cX5_see 2 = .ok (.bipush 8, 2) := by decide +kernel
theorem dX5_see_4 : decode cX5_see 4 = .ok (.invokestatic 55, 3) := by decide +kernel
theorem dX5_see_7 : decode cX5_see 7 = .ok (.ifCond .eq 13, 3) := by decide +kernel
theorem dX5_see_10 : decode cX5_see 10 = .ok (.iload_n 2, 1) := by decide +kernel
theorem dX5_see_11 : decode cX5_see 11 = .ok (.iconst 0, 1) := by decide +kernel
theorem dX5_see_12 : decode cX5_see 12 = .ok (.bipush 40, 2) := by decide +kernel
theorem dX5_see_14 : decode cX5_see 14 = .ok (.invokestatic 55, 3) := by decide +kernel
theorem dX5_see_17 : decode cX5_see 17 = .ok (.ifCond .ne 5, 3) := by decide +kernel
theorem dX5_see_20 : decode cX5_see 20 = .ok (.iconst (-1), 1) := by decide +kernel
theorem dX5_see_21 : decode cX5_see 21 = .ok (.ireturn, 1) := by decide +kernel
theorem dX5_see_22 : decode cX5_see 22 = .ok (.aload_n 0, 1) := by decide +kernel
theorem dX5_see_23 : decode cX5_see 23 = .ok (.getfield 36, 3) := by decide +kernel
theorem dX5_see_26 : decode cX5_see 26 = .ok (.iload_n 1, 1) := by decide +kernel
theorem dX5_see_27 : decode cX5_see 27 = .ok (.iload_n 2, 1) := by decide +kernel
theorem dX5_see_28 : decode cX5_see 28 = .ok (.invokevirtual 223, 3) := by decide +kernel
theorem dX5_see_31 : decode cX5_see 31 = .ok (.ifCond .eq 13, 3) := by decide +kernel
theorem dX5_see_34 : decode cX5_see 34 = .ok (.aload_n 0, 1) := by decide +kernel
theorem dX5_see_35 : decode cX5_see 35 = .ok (.getfield 36, 3) := by decide +kernel
theorem dX5_see_38 : decode cX5_see 38 = .ok (.getfield 87, 3) := by decide +kernel
theorem dX5_see_41 : decode cX5_see 41 = .ok (.goto 5, 3) := by decide +kernel
theorem dX5_see_44 : decode cX5_see 44 = .ok (.bipush (-3), 2) := by decide +kernel
theorem dX5_see_46 : decode cX5_see 46 = .ok (.ireturn, 1) := by decide +kernel
theorem dX5_forget_0 : decode cX5_forget 0 = .ok (.iload_n 1, 1) := by decide +kernel
theorem dX5_forget_1 : decode cX5_forget 1 = .ok (.iconst 0, 1) := by decide +kernel
theorem dX5_forget_2 : decode cX5_forget 2 = .ok (.aload_n 0, 1) := by decide +kernel
theorem dX5_forget_3 : decode cX5_forget 3 = .ok (.getfield 36, 3) := by decide +kernel
theorem dX5_forget_6 : decode cX5_forget 6 = .ok (.getfield 87, 3) := by decide +kernel
theorem dX5_forget_9 : decode cX5_forget 9 = .ok (.invokestatic 55, 3) := by decide +kernel
theorem dX5_forget_12 : decode cX5_forget 12 = .ok (.ifCond .ne 5, 3) := by decide +kernel
theorem dX5_forget_15 : decode cX5_forget 15 = .ok (.iconst (-1), 1) := by decide +kernel
theorem dX5_forget_16 : decode cX5_forget 16 = .ok (.ireturn, 1) := by decide +kernel
theorem dX5_forget_17 : decode cX5_forget 17 = .ok (.aload_n 0, 1) := by decide +kernel
theorem dX5_forget_18 : decode cX5_forget 18 = .ok (.getfield 36, 3) := by decide +kernel
theorem dX5_forget_21 : decode cX5_forget 21 = .ok (.getfield 87, 3) := by decide +kernel
theorem dX5_forget_24 : decode cX5_forget 24 = .ok (.istore_n 2, 1) := by decide +kernel
theorem dX5_forget_25 : decode cX5_forget 25 = .ok (.aload_n 0, 1) := by decide +kernel
theorem dX5_forget_26 : decode cX5_forget 26 = .ok (.getfield 36, 3) := by decide +kernel
theorem dX5_forget_29 : decode cX5_forget 29 = .ok (.iload_n 1, 1) := by decide +kernel
theorem dX5_forget_30 : decode cX5_forget 30 = .ok (.putfield 87, 3) := by decide +kernel
theorem dX5_forget_33 : decode cX5_forget 33 = .ok (.iload_n 2, 1) := by decide +kernel
theorem dX5_forget_34 : decode cX5_forget 34 = .ok (.ireturn, 1) := by decide +kernel
theorem dX5_stewards_0 : decode cX5_stewards 0 = .ok (.aload_n 0, 1) := by decide +kernel
theorem dX5_stewards_1 : decode cX5_stewards 1 = .ok (.iload_n 1, 1) := by decide +kernel
theorem dX5_stewards_2 : decode cX5_stewards 2 = .ok (.invokevirtual 142, 3) := by decide +kernel
theorem dX5_stewards_5 : decode cX5_stewards 5 = .ok (.ifCond .eq 10, 3) := by decide +kernel
theorem dX5_stewards_8 : decode cX5_stewards 8 = .ok (.iload_n 2, 1) := by decide +kernel
theorem dX5_stewards_9 : decode cX5_stewards 9 = .ok (.invokestatic 135, 3) := by decide +kernel
theorem dX5_stewards_12 : decode cX5_stewards 12 = .ok (.ifCond .ne 5, 3) := by decide +kernel
theorem dX5_stewards_15 : decode cX5_stewards 15 = .ok (.iconst (-1), 1) := by decide +kernel
theorem dX5_stewards_16 : decode cX5_stewards 16 = .ok (.ireturn, 1) := by decide +kernel
theorem dX5_stewards_17 : decode cX5_stewards 17 = .ok (.iconst 0, 1) := by decide +kernel
theorem dX5_stewards_18 : decode cX5_stewards 18 = .ok (.istore_n 3, 1) := by decide +kernel
theorem dX5_stewards_19 : decode cX5_stewards 19 = .ok (.bipush (-4), 2) := by decide +kernel
theorem dX5_stewards_21 : decode cX5_stewards 21 = .ok (.istore 4, 2) := by decide +kernel
theorem dX5_stewards_23 : decode cX5_stewards 23 = .ok (.iconst 0, 1) := by decide +kernel
theorem dX5_stewards_24 : decode cX5_stewards 24 = .ok (.istore 5, 2) := by decide +kernel
theorem dX5_stewards_26 : decode cX5_stewards 26 = .ok (.iload 5, 2) := by decide +kernel
theorem dX5_stewards_28 : decode cX5_stewards 28 = .ok (.iconst 4, 1) := by decide +kernel
theorem dX5_stewards_29 : decode cX5_stewards 29 = .ok (.if_icmp .gt 60, 3) := by decide +kernel
theorem dX5_stewards_32 : decode cX5_stewards 32 = .ok (.iconst 0, 1) := by decide +kernel
theorem dX5_stewards_33 : decode cX5_stewards 33 = .ok (.istore 6, 2) := by decide +kernel
theorem dX5_stewards_35 : decode cX5_stewards 35 = .ok (.iload 6, 2) := by decide +kernel
theorem dX5_stewards_37 : decode cX5_stewards 37 = .ok (.bipush 9, 2) := by decide +kernel
theorem dX5_stewards_39 : decode cX5_stewards 39 = .ok (.if_icmp .gt 44, 3) := by decide +kernel
theorem dX5_stewards_42 : decode cX5_stewards 42 = .ok (.aload_n 0, 1) := by decide +kernel
theorem dX5_stewards_43 : decode cX5_stewards 43 = .ok (.iload_n 1, 1) := by decide +kernel
theorem dX5_stewards_44 : decode cX5_stewards 44 = .ok (.iload 5, 2) := by decide +kernel
theorem dX5_stewards_46 : decode cX5_stewards 46 = .ok (.iload 6, 2) := by decide +kernel
theorem dX5_stewards_48 : decode cX5_stewards 48 = .ok (.iconst 0, 1) := by decide +kernel
theorem dX5_stewards_49 : decode cX5_stewards 49 = .ok (.invokevirtual 226, 3) := by decide +kernel
theorem dX5_stewards_52 : decode cX5_stewards 52 = .ok (.ifCond .eq 25, 3) := by decide +kernel
theorem dX5_stewards_55 : decode cX5_stewards 55 = .ok (.iload_n 3, 1) := by decide +kernel
theorem dX5_stewards_56 : decode cX5_stewards 56 = .ok (.ifCond .ne 14, 3) := by decide +kernel
theorem dX5_stewards_59 : decode cX5_stewards 59 = .ok (.bipush 10, 2) := by decide +kernel
theorem dX5_stewards_61 : decode cX5_stewards 61 = .ok (.iload 5, 2) := by decide +kernel
theorem dX5_stewards_63 : decode cX5_stewards 63 = .ok (.imul, 1) := by decide +kernel
theorem dX5_stewards_64 : decode cX5_stewards 64 = .ok (.iload 6, 2) := by decide +kernel
theorem dX5_stewards_66 : decode cX5_stewards 66 = .ok (.iadd, 1) := by decide +kernel
theorem dX5_stewards_67 : decode cX5_stewards 67 = .ok (.goto 5, 3) := by decide +kernel
theorem dX5_stewards_70 : decode cX5_stewards 70 = .ok (.iload 4, 2) := by decide +kernel
theorem dX5_stewards_72 : decode cX5_stewards 72 = .ok (.istore 4, 2) := by decide +kernel
theorem dX5_stewards_74 : decode cX5_stewards 74 = .ok (.iinc 3 1, 3) := by decide +kernel
theorem dX5_stewards_77 : decode cX5_stewards 77 = .ok (.iinc 6 1, 3) := by decide +kernel
theorem dX5_stewards_80 : decode cX5_stewards 80 = .ok (.goto (-45), 3) := by decide +kernel
theorem dX5_stewards_83 : decode cX5_stewards 83 = .ok (.iinc 5 1, 3) := by decide +kernel
theorem dX5_stewards_86 : decode cX5_stewards 86 = .ok (.goto (-60), 3) := by decide +kernel
theorem dX5_stewards_89 : decode cX5_stewards 89 = .ok (.iload_n 2, 1) := by decide +kernel
theorem dX5_stewards_90 : decode cX5_stewards 90 = .ok (.ifCond .ne 7, 3) := by decide +kernel
theorem dX5_stewards_93 : decode cX5_stewards 93 = .ok (.iload_n 3, 1) := by decide +kernel
theorem dX5_stewards_94 : decode cX5_stewards 94 = .ok (.goto 5, 3) := by decide +kernel
theorem dX5_stewards_97 : decode cX5_stewards 97 = .ok (.iload 4, 2) := by decide +kernel
theorem dX5_stewards_99 : decode cX5_stewards 99 = .ok (.ireturn, 1) := by decide +kernel
theorem dX5_hoards_0 : decode cX5_hoards 0 = .ok (.aload_n 0, 1) := by decide +kernel
theorem dX5_hoards_1 : decode cX5_hoards 1 = .ok (.iload_n 1, 1) := by decide +kernel
theorem dX5_hoards_2 : decode cX5_hoards 2 = .ok (.invokevirtual 142, 3) := by decide +kernel
theorem dX5_hoards_5 : decode cX5_hoards 5 = .ok (.ifCond .ne 5, 3) := by decide +kernel
theorem dX5_hoards_8 : decode cX5_hoards 8 = .ok (.iconst (-1), 1) := by decide +kernel
theorem dX5_hoards_9 : decode cX5_hoards 9 = .ok (.ireturn, 1) := by decide +kernel
theorem dX5_hoards_10 : decode cX5_hoards 10 = .ok (.iconst 0, 1) := by decide +kernel
theorem dX5_hoards_11 : decode cX5_hoards 11 = .ok (.istore_n 2, 1) := by decide +kernel
theorem dX5_hoards_12 : decode cX5_hoards 12 = .ok (.iconst 0, 1) := by decide +kernel
theorem dX5_hoards_13 : decode cX5_hoards 13 = .ok (.istore_n 3, 1) := by decide +kernel
theorem dX5_hoards_14 : decode cX5_hoards 14 = .ok (.iload_n 3, 1) := by decide +kernel
theorem dX5_hoards_15 : decode cX5_hoards 15 = .ok (.bipush 9, 2) := by decide +kernel
theorem dX5_hoards_17 : decode cX5_hoards 17 = .ok (.if_icmp .gt 38, 3) := by decide +kernel
theorem dX5_hoards_20 : decode cX5_hoards 20 = .ok (.aload_n 0, 1) := by decide +kernel
theorem dX5_hoards_21 : decode cX5_hoards 21 = .ok (.iload_n 1, 1) := by decide +kernel
theorem dX5_hoards_22 : decode cX5_hoards 22 = .ok (.aload_n 0, 1) := by decide +kernel
theorem dX5_hoards_23 : decode cX5_hoards 23 = .ok (.getfield 19, 3) := by decide +kernel
theorem dX5_hoards_26 : decode cX5_hoards 26 = .ok (.getfield 117, 3) := by decide +kernel
theorem dX5_hoards_29 : decode cX5_hoards 29 = .ok (.aload_n 0, 1) := by decide +kernel
theorem dX5_hoards_30 : decode cX5_hoards 30 = .ok (.getfield 19, 3) := by decide +kernel
theorem dX5_hoards_33 : decode cX5_hoards 33 = .ok (.getfield 120, 3) := by decide +kernel
theorem dX5_hoards_36 : decode cX5_hoards 36 = .ok (.iload_n 3, 1) := by decide +kernel
theorem dX5_hoards_37 : decode cX5_hoards 37 = .ok (.invokevirtual 226, 3) := by decide +kernel
theorem dX5_hoards_40 : decode cX5_hoards 40 = .ok (.ifCond .eq 9, 3) := by decide +kernel
theorem dX5_hoards_43 : decode cX5_hoards 43 = .ok (.iload_n 2, 1) := by decide +kernel
theorem dX5_hoards_44 : decode cX5_hoards 44 = .ok (.iconst 1, 1) := by decide +kernel
theorem dX5_hoards_45 : decode cX5_hoards 45 = .ok (.iload_n 3, 1) := by decide +kernel
theorem dX5_hoards_46 : decode cX5_hoards 46 = .ok (.ishl, 1) := by decide +kernel
theorem dX5_hoards_47 : decode cX5_hoards 47 = .ok (.ior, 1) := by decide +kernel
theorem dX5_hoards_48 : decode cX5_hoards 48 = .ok (.istore_n 2, 1) := by decide +kernel
theorem dX5_hoards_49 : decode cX5_hoards 49 = .ok (.iinc 3 1, 3) := by decide +kernel
theorem dX5_hoards_52 : decode cX5_hoards 52 = .ok (.goto (-38), 3) := by decide +kernel
theorem dX5_hoards_55 : decode cX5_hoards 55 = .ok (.iload_n 2, 1) := by decide +kernel
theorem dX5_hoards_56 : decode cX5_hoards 56 = .ok (.ireturn, 1) := by decide +kernel
theorem dX5_fits_0 : decode cX5_fits 0 = .ok (.iconst 0, 1) := by decide +kernel
theorem dX5_fits_1 : decode cX5_fits 1 = .ok (.istore_n 1, 1) := by decide +kernel
theorem dX5_fits_2 : decode cX5_fits 2 = .ok (.iconst 0, 1) := by decide +kernel
theorem dX5_fits_3 : decode cX5_fits 3 = .ok (.istore_n 2, 1) := by decide +kernel
theorem dX5_fits_4 : decode cX5_fits 4 = .ok (.iload_n 2, 1) := by decide +kernel
theorem dX5_fits_5 : decode cX5_fits 5 = .ok (.aload_n 0, 1) := by decide +kernel
theorem dX5_fits_6 : decode cX5_fits 6 = .ok (.getfield 19, 3) := by decide +kernel
theorem dX5_fits_9 : decode cX5_fits 9 = .ok (.getfield 93, 3) := by decide +kernel
theorem dX5_fits_12 : decode cX5_fits 12 = .ok (.if_icmp .ge 38, 3) := by decide +kernel
theorem dX5_fits_15 : decode cX5_fits 15 = .ok (.aload_n 0, 1) := by decide +kernel
theorem dX5_fits_16 : decode cX5_fits 16 = .ok (.iload_n 2, 1) := by decide +kernel
theorem dX5_fits_17 : decode cX5_fits 17 = .ok (.aload_n 0, 1) := by decide +kernel
theorem dX5_fits_18 : decode cX5_fits 18 = .ok (.getfield 19, 3) := by decide +kernel
theorem dX5_fits_21 : decode cX5_fits 21 = .ok (.getfield 117, 3) := by decide +kernel
theorem dX5_fits_24 : decode cX5_fits 24 = .ok (.aload_n 0, 1) := by decide +kernel
theorem dX5_fits_25 : decode cX5_fits 25 = .ok (.getfield 19, 3) := by decide +kernel
theorem dX5_fits_28 : decode cX5_fits 28 = .ok (.getfield 120, 3) := by decide +kernel
theorem dX5_fits_31 : decode cX5_fits 31 = .ok (.iconst 0, 1) := by decide +kernel
theorem dX5_fits_32 : decode cX5_fits 32 = .ok (.invokevirtual 226, 3) := by decide +kernel
theorem dX5_fits_35 : decode cX5_fits 35 = .ok (.ifCond .eq 9, 3) := by decide +kernel
theorem dX5_fits_38 : decode cX5_fits 38 = .ok (.iload_n 1, 1) := by decide +kernel
theorem dX5_fits_39 : decode cX5_fits 39 = .ok (.iconst 1, 1) := by decide +kernel
theorem dX5_fits_40 : decode cX5_fits 40 = .ok (.iload_n 2, 1) := by decide +kernel
theorem dX5_fits_41 : decode cX5_fits 41 = .ok (.ishl, 1) := by decide +kernel
theorem dX5_fits_42 : decode cX5_fits 42 = .ok (.ior, 1) := by decide +kernel
theorem dX5_fits_43 : decode cX5_fits 43 = .ok (.istore_n 1, 1) := by decide +kernel
theorem dX5_fits_44 : decode cX5_fits 44 = .ok (.iinc 2 1, 3) := by decide +kernel
theorem dX5_fits_47 : decode cX5_fits 47 = .ok (.goto (-43), 3) := by decide +kernel
theorem dX5_fits_50 : decode cX5_fits 50 = .ok (.iload_n 1, 1) := by decide +kernel
theorem dX5_fits_51 : decode cX5_fits 51 = .ok (.ireturn, 1) := by decide +kernel
theorem dX5_drift_0 : decode cX5_drift 0 = .ok (.iload_n 2, 1) := by decide +kernel
theorem dX5_drift_1 : decode cX5_drift 1 = .ok (.iconst 0, 1) := by decide +kernel
theorem dX5_drift_2 : decode cX5_drift 2 = .ok (.bipush 10, 2) := by decide +kernel
theorem dX5_drift_4 : decode cX5_drift 4 = .ok (.invokestatic 55, 3) := by decide +kernel
theorem dX5_drift_7 : decode cX5_drift 7 = .ok (.ifCond .eq 12, 3) := by decide +kernel
theorem dX5_drift_10 : decode cX5_drift 10 = .ok (.iload_n 3, 1) := by decide +kernel
theorem dX5_drift_11 : decode cX5_drift 11 = .ok (.iconst 0, 1) := by decide +kernel
theorem dX5_drift_12 : decode cX5_drift 12 = .ok (.iconst 2, 1) := by decide +kernel
theorem dX5_drift_13 : decode cX5_drift 13 = .ok (.invokestatic 55, 3) := by decide +kernel
theorem dX5_drift_16 : decode cX5_drift 16 = .ok (.ifCond .ne 5, 3) := by decide +kernel
theorem dX5_drift_19 : decode cX5_drift 19 = .ok (.iconst (-1), 1) := by decide +kernel
theorem dX5_drift_20 : decode cX5_drift 20 = .ok (.ireturn, 1) := by decide +kernel
theorem dX5_drift_21 : decode cX5_drift 21 = .ok (.aload_n 0, 1) := by decide +kernel
theorem dX5_drift_22 : decode cX5_drift 22 = .ok (.getfield 23, 3) := by decide +kernel
theorem dX5_drift_25 : decode cX5_drift 25 = .ok (.aload_n 0, 1) := by decide +kernel
theorem dX5_drift_26 : decode cX5_drift 26 = .ok (.getfield 19, 3) := by decide +kernel
theorem dX5_drift_29 : decode cX5_drift 29 = .ok (.invokevirtual 84, 3) := by decide +kernel
theorem dX5_drift_32 : decode cX5_drift 32 = .ok (.iload_n 1, 1) := by decide +kernel
theorem dX5_drift_33 : decode cX5_drift 33 = .ok (.istore 4, 2) := by decide +kernel
theorem dX5_drift_35 : decode cX5_drift 35 = .ok (.aload_n 0, 1) := by decide +kernel
theorem dX5_drift_36 : decode cX5_drift 36 = .ok (.getfield 19, 3) := by decide +kernel
theorem dX5_drift_39 : decode cX5_drift 39 = .ok (.getfield 123, 3) := by decide +kernel
theorem dX5_drift_42 : decode cX5_drift 42 = .ok (.istore 5, 2) := by decide +kernel
theorem dX5_drift_44 : decode cX5_drift 44 = .ok (.iload 5, 2) := by decide +kernel
theorem dX5_drift_46 : decode cX5_drift 46 = .ok (.bipush 8, 2) := by decide +kernel
theorem dX5_drift_48 : decode cX5_drift 48 = .ok (.if_icmp .ge 53, 3) := by decide +kernel
theorem dX5_drift_51 : decode cX5_drift 51 = .ok (.iload 4, 2) := by decide +kernel
theorem dX5_drift_53 : decode cX5_drift 53 = .ok (.ldc 229, 2) := by decide +kernel
theorem dX5_drift_55 : decode cX5_drift 55 = .ok (.imul, 1) := by decide +kernel
theorem dX5_drift_56 : decode cX5_drift 56 = .ok (.sipush 12345, 3) := by decide +kernel
theorem dX5_drift_59 : decode cX5_drift 59 = .ok (.iadd, 1) := by decide +kernel
theorem dX5_drift_60 : decode cX5_drift 60 = .ok (.istore 4, 2) := by decide +kernel
theorem dX5_drift_62 : decode cX5_drift 62 = .ok (.iload 4, 2) := by decide +kernel
theorem dX5_drift_64 : decode cX5_drift 64 = .ok (.bipush 16, 2) := by decide +kernel
theorem dX5_drift_66 : decode cX5_drift 66 = .ok (.iushr, 1) := by decide +kernel
theorem dX5_drift_67 : decode cX5_drift 67 = .ok (.sipush 32767, 3) := by decide +kernel
theorem dX5_drift_70 : decode cX5_drift 70 = .ok (.iand, 1) := by decide +kernel
theorem dX5_drift_71 : decode cX5_drift 71 = .ok (.bipush 10, 2) := by decide +kernel
theorem dX5_drift_73 : decode cX5_drift 73 = .ok (.irem, 1) := by decide +kernel
theorem dX5_drift_74 : decode cX5_drift 74 = .ok (.istore 6, 2) := by decide +kernel
theorem dX5_drift_76 : decode cX5_drift 76 = .ok (.aload_n 0, 1) := by decide +kernel
theorem dX5_drift_77 : decode cX5_drift 77 = .ok (.getfield 23, 3) := by decide +kernel
theorem dX5_drift_80 : decode cX5_drift 80 = .ok (.iload 6, 2) := by decide +kernel
theorem dX5_drift_82 : decode cX5_drift 82 = .ok (.iload_n 2, 1) := by decide +kernel
theorem dX5_drift_83 : decode cX5_drift 83 = .ok (.if_icmp .ge 7, 3) := by decide +kernel
theorem dX5_drift_86 : decode cX5_drift 86 = .ok (.iconst 1, 1) := by decide +kernel
theorem dX5_drift_87 : decode cX5_drift 87 = .ok (.goto 4, 3) := by decide +kernel
theorem dX5_drift_90 : decode cX5_drift 90 = .ok (.iconst 0, 1) := by decide +kernel
theorem dX5_drift_91 : decode cX5_drift 91 = .ok (.invokevirtual 176, 3) := by decide +kernel
theorem dX5_drift_94 : decode cX5_drift 94 = .ok (.pop, 1) := by decide +kernel
theorem dX5_drift_95 : decode cX5_drift 95 = .ok (.iinc 5 1, 3) := by decide +kernel
theorem dX5_drift_98 : decode cX5_drift 98 = .ok (.goto (-54), 3) := by decide +kernel
theorem dX5_drift_101 : decode cX5_drift 101 = .ok (.iload_n 3, 1) := by decide +kernel
theorem dX5_drift_102 : decode cX5_drift 102 = .ok (.iconst 2, 1) := by decide +kernel
theorem dX5_drift_103 : decode cX5_drift 103 = .ok (.if_icmp .ne 11, 3) := by decide +kernel
theorem dX5_drift_106 : decode cX5_drift 106 = .ok (.aload_n 0, 1) := by decide +kernel
theorem dX5_drift_107 : decode cX5_drift 107 = .ok (.getfield 23, 3) := by decide +kernel
theorem dX5_drift_110 : decode cX5_drift 110 = .ok (.getfield 108, 3) := by decide +kernel
theorem dX5_drift_113 : decode cX5_drift 113 = .ok (.ireturn, 1) := by decide +kernel
theorem dX5_drift_114 : decode cX5_drift 114 = .ok (.iload_n 3, 1) := by decide +kernel
theorem dX5_drift_115 : decode cX5_drift 115 = .ok (.ifCond .ne 21, 3) := by decide +kernel
theorem dX5_drift_118 : decode cX5_drift 118 = .ok (.aload_n 0, 1) := by decide +kernel
theorem dX5_drift_119 : decode cX5_drift 119 = .ok (.getfield 23, 3) := by decide +kernel
theorem dX5_drift_122 : decode cX5_drift 122 = .ok (.getfield 129, 3) := by decide +kernel
theorem dX5_drift_125 : decode cX5_drift 125 = .ok (.aload_n 0, 1) := by decide +kernel
theorem dX5_drift_126 : decode cX5_drift 126 = .ok (.getfield 19, 3) := by decide +kernel
theorem dX5_drift_129 : decode cX5_drift 129 = .ok (.getfield 129, 3) := by decide +kernel
theorem dX5_drift_132 : decode cX5_drift 132 = .ok (.isub, 1) := by decide +kernel
theorem dX5_drift_133 : decode cX5_drift 133 = .ok (.goto 18, 3) := by decide +kernel
theorem dX5_drift_136 : decode cX5_drift 136 = .ok (.aload_n 0, 1) := by decide +kernel
theorem dX5_drift_137 : decode cX5_drift 137 = .ok (.getfield 23, 3) := by decide +kernel
theorem dX5_drift_140 : decode cX5_drift 140 = .ok (.getfield 126, 3) := by decide +kernel
theorem dX5_drift_143 : decode cX5_drift 143 = .ok (.aload_n 0, 1) := by decide +kernel
theorem dX5_drift_144 : decode cX5_drift 144 = .ok (.getfield 19, 3) := by decide +kernel
theorem dX5_drift_147 : decode cX5_drift 147 = .ok (.getfield 126, 3) := by decide +kernel
theorem dX5_drift_150 : decode cX5_drift 150 = .ok (.isub, 1) := by decide +kernel
theorem dX5_drift_151 : decode cX5_drift 151 = .ok (.ireturn, 1) := by decide +kernel
theorem dX5_keep_0 : decode cX5_keep 0 = .ok (.iload_n 1, 1) := by decide +kernel
theorem dX5_keep_1 : decode cX5_keep 1 = .ok (.iconst 0, 1) := by decide +kernel
theorem dX5_keep_2 : decode cX5_keep 2 = .ok (.iconst 1, 1) := by decide +kernel
theorem dX5_keep_3 : decode cX5_keep 3 = .ok (.invokestatic 55, 3) := by decide +kernel
theorem dX5_keep_6 : decode cX5_keep 6 = .ok (.ifCond .ne 5, 3) := by decide +kernel
theorem dX5_keep_9 : decode cX5_keep 9 = .ok (.iconst (-1), 1) := by decide +kernel
theorem dX5_keep_10 : decode cX5_keep 10 = .ok (.ireturn, 1) := by decide +kernel
theorem dX5_keep_11 : decode cX5_keep 11 = .ok (.aload_n 0, 1) := by decide +kernel
theorem dX5_keep_12 : decode cX5_keep 12 = .ok (.getfield 44, 3) := by decide +kernel
theorem dX5_keep_15 : decode cX5_keep 15 = .ok (.iload_n 1, 1) := by decide +kernel
theorem dX5_keep_16 : decode cX5_keep 16 = .ok (.baload, 1) := by decide +kernel
theorem dX5_keep_17 : decode cX5_keep 17 = .ok (.ifCond .eq 7, 3) := by decide +kernel
theorem dX5_keep_20 : decode cX5_keep 20 = .ok (.iconst 1, 1) := by decide +kernel
theorem dX5_keep_21 : decode cX5_keep 21 = .ok (.goto 4, 3) := by decide +kernel
theorem dX5_keep_24 : decode cX5_keep 24 = .ok (.iconst 0, 1) := by decide +kernel
theorem dX5_keep_25 : decode cX5_keep 25 = .ok (.istore_n 2, 1) := by decide +kernel
theorem dX5_keep_26 : decode cX5_keep 26 = .ok (.aload_n 0, 1) := by decide +kernel
theorem dX5_keep_27 : decode cX5_keep 27 = .ok (.getfield 40, 3) := by decide +kernel
theorem dX5_keep_30 : decode cX5_keep 30 = .ok (.iload_n 1, 1) := by decide +kernel
theorem dX5_keep_31 : decode cX5_keep 31 = .ok (.aaload, 1) := by decide +kernel
theorem dX5_keep_32 : decode cX5_keep 32 = .ok (.aload_n 0, 1) := by decide +kernel
theorem dX5_keep_33 : decode cX5_keep 33 = .ok (.getfield 19, 3) := by decide +kernel
theorem dX5_keep_36 : decode cX5_keep 36 = .ok (.invokevirtual 84, 3) := by decide +kernel
theorem dX5_keep_39 : decode cX5_keep 39 = .ok (.aload_n 0, 1) := by decide +kernel
theorem dX5_keep_40 : decode cX5_keep 40 = .ok (.getfield 44, 3) := by decide +kernel
theorem dX5_keep_43 : decode cX5_keep 43 = .ok (.iload_n 1, 1) := by decide +kernel
theorem dX5_keep_44 : decode cX5_keep 44 = .ok (.iconst 1, 1) := by decide +kernel
theorem dX5_keep_45 : decode cX5_keep 45 = .ok (.bastore, 1) := by decide +kernel
theorem dX5_keep_46 : decode cX5_keep 46 = .ok (.iload_n 2, 1) := by decide +kernel
theorem dX5_keep_47 : decode cX5_keep 47 = .ok (.ireturn, 1) := by decide +kernel
theorem dX5_back_0 : decode cX5_back 0 = .ok (.iload_n 1, 1) := by decide +kernel
theorem dX5_back_1 : decode cX5_back 1 = .ok (.iconst 0, 1) := by decide +kernel
theorem dX5_back_2 : decode cX5_back 2 = .ok (.iconst 1, 1) := by decide +kernel
theorem dX5_back_3 : decode cX5_back 3 = .ok (.invokestatic 55, 3) := by decide +kernel
theorem dX5_back_6 : decode cX5_back 6 = .ok (.ifCond .ne 5, 3) := by decide +kernel
theorem dX5_back_9 : decode cX5_back 9 = .ok (.iconst (-1), 1) := by decide +kernel
theorem dX5_back_10 : decode cX5_back 10 = .ok (.ireturn, 1) := by decide +kernel
theorem dX5_back_11 : decode cX5_back 11 = .ok (.aload_n 0, 1) := by decide +kernel
theorem dX5_back_12 : decode cX5_back 12 = .ok (.getfield 44, 3) := by decide +kernel
theorem dX5_back_15 : decode cX5_back 15 = .ok (.iload_n 1, 1) := by decide +kernel
theorem dX5_back_16 : decode cX5_back 16 = .ok (.baload, 1) := by decide +kernel
theorem dX5_back_17 : decode cX5_back 17 = .ok (.ifCond .ne 6, 3) := by decide +kernel
theorem dX5_back_20 : decode cX5_back 20 = .ok (.bipush (-2), 2) := by decide +kernel
theorem dX5_back_22 : decode cX5_back 22 = .ok (.ireturn, 1) := by decide +kernel
theorem dX5_back_23 : decode cX5_back 23 = .ok (.aload_n 0, 1) := by decide +kernel
theorem dX5_back_24 : decode cX5_back 24 = .ok (.getfield 19, 3) := by decide +kernel
theorem dX5_back_27 : decode cX5_back 27 = .ok (.aload_n 0, 1) := by decide +kernel
theorem dX5_back_28 : decode cX5_back 28 = .ok (.getfield 40, 3) := by decide +kernel
theorem dX5_back_31 : decode cX5_back 31 = .ok (.iload_n 1, 1) := by decide +kernel
theorem dX5_back_32 : decode cX5_back 32 = .ok (.aaload, 1) := by decide +kernel
theorem dX5_back_33 : decode cX5_back 33 = .ok (.invokevirtual 84, 3) := by decide +kernel
theorem dX5_back_36 : decode cX5_back 36 = .ok (.aload_n 0, 1) := by decide +kernel
theorem dX5_back_37 : decode cX5_back 37 = .ok (.getfield 19, 3) := by decide +kernel
theorem dX5_back_40 : decode cX5_back 40 = .ok (.getfield 123, 3) := by decide +kernel
theorem dX5_back_43 : decode cX5_back 43 = .ok (.ireturn, 1) := by decide +kernel
theorem dX5_sheet_0 : decode cX5_sheet 0 = .ok (.iload_n 1, 1) := by decide +kernel
theorem dX5_sheet_1 : decode cX5_sheet 1 = .ok (.invokestatic 230, 3) := by decide +kernel
theorem dX5_sheet_4 : decode cX5_sheet 4 = .ok (.ifCond .eq 16, 3) := by decide +kernel
theorem dX5_sheet_7 : decode cX5_sheet 7 = .ok (.iload_n 2, 1) := by decide +kernel
theorem dX5_sheet_8 : decode cX5_sheet 8 = .ok (.invokestatic 233, 3) := by decide +kernel
theorem dX5_sheet_11 : decode cX5_sheet 11 = .ok (.ifCond .eq 9, 3) := by decide +kernel
theorem dX5_sheet_14 : decode cX5_sheet 14 = .ok (.iload_n 3, 1) := by decide +kernel
theorem dX5_sheet_15 : decode cX5_sheet 15 = .ok (.bipush 40, 2) := by decide +kernel
theorem dX5_sheet_17 : decode cX5_sheet 17 = .ok (.if_icmp .le 5, 3) := by decide +kernel
theorem dX5_sheet_20 : decode cX5_sheet 20 = .ok (.iconst (-1), 1) := by decide +kernel
theorem dX5_sheet_21 : decode cX5_sheet 21 = .ok (.ireturn, 1) := by decide +kernel
theorem dX5_sheet_22 : decode cX5_sheet 22 = .ok (.iload_n 3, 1) := by decide +kernel
theorem dX5_sheet_23 : decode cX5_sheet 23 = .ok (.ifCond .ge 6, 3) := by decide +kernel
theorem dX5_sheet_26 : decode cX5_sheet 26 = .ok (.bipush (-14), 2) := by decide +kernel
theorem dX5_sheet_28 : decode cX5_sheet 28 = .ok (.ireturn, 1) := by decide +kernel
theorem dX5_sheet_29 : decode cX5_sheet 29 = .ok (.aload_n 0, 1) := by decide +kernel
theorem dX5_sheet_30 : decode cX5_sheet 30 = .ok (.getfield 50, 3) := by decide +kernel
theorem dX5_sheet_33 : decode cX5_sheet 33 = .ok (.iload_n 1, 1) := by decide +kernel
theorem dX5_sheet_34 : decode cX5_sheet 34 = .ok (.aaload, 1) := by decide +kernel
theorem dX5_sheet_35 : decode cX5_sheet 35 = .ok (.iload_n 2, 1) := by decide +kernel
theorem dX5_sheet_36 : decode cX5_sheet 36 = .ok (.iload_n 3, 1) := by decide +kernel
theorem dX5_sheet_37 : decode cX5_sheet 37 = .ok (.invokevirtual 236, 3) := by decide +kernel
theorem dX5_sheet_40 : decode cX5_sheet 40 = .ok (.iconst 1, 1) := by decide +kernel
theorem dX5_sheet_41 : decode cX5_sheet 41 = .ok (.ireturn, 1) := by decide +kernel
theorem dX5_lay_0 : decode cX5_lay 0 = .ok (.iload_n 1, 1) := by decide +kernel
theorem dX5_lay_1 : decode cX5_lay 1 = .ok (.invokestatic 230, 3) := by decide +kernel
theorem dX5_lay_4 : decode cX5_lay 4 = .ok (.ifCond .ne 5, 3) := by decide +kernel
theorem dX5_lay_7 : decode cX5_lay 7 = .ok (.iconst (-1), 1) := by decide +kernel
theorem dX5_lay_8 : decode cX5_lay 8 = .ok (.ireturn, 1) := by decide +kernel
theorem dX5_lay_9 : decode cX5_lay 9 = .ok (.aload_n 0, 1) := by decide +kernel
theorem dX5_lay_10 : decode cX5_lay 10 = .ok (.getfield 50, 3) := by decide +kernel
theorem dX5_lay_13 : decode cX5_lay 13 = .ok (.iload_n 1, 1) := by decide +kernel
theorem dX5_lay_14 : decode cX5_lay 14 = .ok (.aaload, 1) := by decide +kernel
theorem dX5_lay_15 : decode cX5_lay 15 = .ok (.iload_n 2, 1) := by decide +kernel
theorem dX5_lay_16 : decode cX5_lay 16 = .ok (.invokevirtual 239, 3) := by decide +kernel
theorem dX5_lay_19 : decode cX5_lay 19 = .ok (.istore 4, 2) := by decide +kernel
theorem dX5_lay_21 : decode cX5_lay 21 = .ok (.iload 4, 2) := by decide +kernel
theorem dX5_lay_23 : decode cX5_lay 23 = .ok (.ifCond .eq 9, 3) := by decide +kernel
theorem dX5_lay_26 : decode cX5_lay 26 = .ok (.bipush (-10), 2) := by decide +kernel
theorem dX5_lay_28 : decode cX5_lay 28 = .ok (.iload 4, 2) := by decide +kernel
theorem dX5_lay_30 : decode cX5_lay 30 = .ok (.isub, 1) := by decide +kernel
theorem dX5_lay_31 : decode cX5_lay 31 = .ok (.ireturn, 1) := by decide +kernel
theorem dX5_lay_32 : decode cX5_lay 32 = .ok (.aload_n 0, 1) := by decide +kernel
theorem dX5_lay_33 : decode cX5_lay 33 = .ok (.getfield 50, 3) := by decide +kernel
theorem dX5_lay_36 : decode cX5_lay 36 = .ok (.iload_n 1, 1) := by decide +kernel
theorem dX5_lay_37 : decode cX5_lay 37 = .ok (.aaload, 1) := by decide +kernel
theorem dX5_lay_38 : decode cX5_lay 38 = .ok (.iload_n 2, 1) := by decide +kernel
theorem dX5_lay_39 : decode cX5_lay 39 = .ok (.iload_n 3, 1) := by decide +kernel
theorem dX5_lay_40 : decode cX5_lay 40 = .ok (.invokevirtual 242, 3) := by decide +kernel
theorem dX5_lay_43 : decode cX5_lay 43 = .ok (.iconst 1, 1) := by decide +kernel
theorem dX5_lay_44 : decode cX5_lay 44 = .ok (.ireturn, 1) := by decide +kernel
theorem dX5_read_0 : decode cX5_read 0 = .ok (.iload_n 1, 1) := by decide +kernel
theorem dX5_read_1 : decode cX5_read 1 = .ok (.invokestatic 230, 3) := by decide +kernel
theorem dX5_read_4 : decode cX5_read 4 = .ok (.ifCond .eq 21, 3) := by decide +kernel
theorem dX5_read_7 : decode cX5_read 7 = .ok (.iload_n 2, 1) := by decide +kernel
theorem dX5_read_8 : decode cX5_read 8 = .ok (.invokestatic 233, 3) := by decide +kernel
theorem dX5_read_11 : decode cX5_read 11 = .ok (.ifCond .eq 14, 3) := by decide +kernel
theorem dX5_read_14 : decode cX5_read 14 = .ok (.iload 4, 2) := by decide +kernel
theorem dX5_read_16 : decode cX5_read 16 = .ok (.iconst 0, 1) := by decide +kernel
theorem dX5_read_17 : decode cX5_read 17 = .ok (.bipush 20, 2) := by decide +kernel
theorem dX5_read_19 : decode cX5_read 19 = .ok (.invokestatic 55, 3) := by decide +kernel
theorem dX5_read_22 : decode cX5_read 22 = .ok (.ifCond .ne 5, 3) := by decide +kernel
theorem dX5_read_25 : decode cX5_read 25 = .ok (.iconst (-1), 1) := by decide +kernel
theorem dX5_read_26 : decode cX5_read 26 = .ok (.ireturn, 1) := by decide +kernel
theorem dX5_read_27 : decode cX5_read 27 = .ok (.aload_n 0, 1) := by decide +kernel
theorem dX5_read_28 : decode cX5_read 28 = .ok (.getfield 50, 3) := by decide +kernel
theorem dX5_read_31 : decode cX5_read 31 = .ok (.iload_n 1, 1) := by decide +kernel
theorem dX5_read_32 : decode cX5_read 32 = .ok (.aaload, 1) := by decide +kernel
theorem dX5_read_33 : decode cX5_read 33 = .ok (.astore 5, 2) := by decide +kernel
theorem dX5_read_35 : decode cX5_read 35 = .ok (.iconst 0, 1) := by decide +kernel
theorem dX5_read_36 : decode cX5_read 36 = .ok (.istore 6, 2) := by decide +kernel
theorem dX5_read_38 : decode cX5_read 38 = .ok (.iconst 0, 1) := by decide +kernel
theorem dX5_read_39 : decode cX5_read 39 = .ok (.istore 7, 2) := by decide +kernel
theorem dX5_read_41 : decode cX5_read 41 = .ok (.aload_n 0, 1) := by decide +kernel
theorem dX5_read_42 : decode cX5_read 42 = .ok (.getfield 23, 3) := by decide +kernel
theorem dX5_read_45 : decode cX5_read 45 = .ok (.aload_n 0, 1) := by decide +kernel
theorem dX5_read_46 : decode cX5_read 46 = .ok (.getfield 19, 3) := by decide +kernel
theorem dX5_read_49 : decode cX5_read 49 = .ok (.invokevirtual 84, 3) := by decide +kernel
theorem dX5_read_52 : decode cX5_read 52 = .ok (.iconst 0, 1) := by decide +kernel
theorem dX5_read_53 : decode cX5_read 53 = .ok (.istore 8, 2) := by decide +kernel
theorem dX5_read_55 : decode cX5_read 55 = .ok (.iload 8, 2) := by decide +kernel
theorem dX5_read_57 : decode cX5_read 57 = .ok (.iload 4, 2) := by decide +kernel
theorem dX5_read_59 : decode cX5_read 59 = .ok (.if_icmp .ge 74, 3) := by decide +kernel
theorem dX5_read_62 : decode cX5_read 62 = .ok (.iload 6, 2) := by decide +kernel
theorem dX5_read_64 : decode cX5_read 64 = .ok (.ifCond .ne 69, 3) := by decide +kernel
theorem dX5_read_67 : decode cX5_read 67 = .ok (.iload_n 3, 1) := by decide +kernel
theorem dX5_read_68 : decode cX5_read 68 = .ok (.iconst 2, 1) := by decide +kernel
theorem dX5_read_69 : decode cX5_read 69 = .ok (.iload 8, 2) := by decide +kernel
theorem dX5_read_71 : decode cX5_read 71 = .ok (.imul, 1) := by decide +kernel
theorem dX5_read_72 : decode cX5_read 72 = .ok (.iadd, 1) := by decide +kernel
theorem dX5_read_73 : decode cX5_read 73 = .ok (.istore 9, 2) := by decide +kernel
theorem dX5_read_75 : decode cX5_read 75 = .ok (.aload 5, 2) := by decide +kernel
theorem dX5_read_77 : decode cX5_read 77 = .ok (.iload_n 2, 1) := by decide +kernel
theorem dX5_read_78 : decode cX5_read 78 = .ok (.iload 9, 2) := by decide +kernel
theorem dX5_read_80 : decode cX5_read 80 = .ok (.invokevirtual 245, 3) := by decide +kernel
theorem dX5_read_83 : decode cX5_read 83 = .ok (.istore 6, 2) := by decide +kernel
theorem dX5_read_85 : decode cX5_read 85 = .ok (.iload 6, 2) := by decide +kernel
theorem dX5_read_87 : decode cX5_read 87 = .ok (.ifCond .ne 40, 3) := by decide +kernel
theorem dX5_read_90 : decode cX5_read 90 = .ok (.aload_n 0, 1) := by decide +kernel
theorem dX5_read_91 : decode cX5_read 91 = .ok (.getfield 23, 3) := by decide +kernel
theorem dX5_read_94 : decode cX5_read 94 = .ok (.aload 5, 2) := by decide +kernel
theorem dX5_read_96 : decode cX5_read 96 = .ok (.getfield 248, 3) := by decide +kernel
theorem dX5_read_99 : decode cX5_read 99 = .ok (.iload 9, 2) := by decide +kernel
theorem dX5_read_101 : decode cX5_read 101 = .ok (.iaload, 1) := by decide +kernel
theorem dX5_read_102 : decode cX5_read 102 = .ok (.aload 5, 2) := by decide +kernel
theorem dX5_read_104 : decode cX5_read 104 = .ok (.getfield 248, 3) := by decide +kernel
theorem dX5_read_107 : decode cX5_read 107 = .ok (.iload 9, 2) := by decide +kernel
theorem dX5_read_109 : decode cX5_read 109 = .ok (.iconst 1, 1) := by decide +kernel
theorem dX5_read_110 : decode cX5_read 110 = .ok (.iadd, 1) := by decide +kernel
theorem dX5_read_111 : decode cX5_read 111 = .ok (.iaload, 1) := by decide +kernel
theorem dX5_read_112 : decode cX5_read 112 = .ok (.invokevirtual 170, 3) := by decide +kernel
theorem dX5_read_115 : decode cX5_read 115 = .ok (.ifCond .ge 9, 3) := by decide +kernel
theorem dX5_read_118 : decode cX5_read 118 = .ok (.bipush (-20), 2) := by decide +kernel
theorem dX5_read_120 : decode cX5_read 120 = .ok (.iload 8, 2) := by decide +kernel
theorem dX5_read_122 : decode cX5_read 122 = .ok (.isub, 1) := by decide +kernel
theorem dX5_read_123 : decode cX5_read 123 = .ok (.ireturn, 1) := by decide +kernel
theorem dX5_read_124 : decode cX5_read 124 = .ok (.iinc 7 1, 3) := by decide +kernel
theorem dX5_read_127 : decode cX5_read 127 = .ok (.iinc 8 1, 3) := by decide +kernel
theorem dX5_read_130 : decode cX5_read 130 = .ok (.goto (-75), 3) := by decide +kernel
theorem dX5_read_133 : decode cX5_read 133 = .ok (.aload_n 0, 1) := by decide +kernel
theorem dX5_read_134 : decode cX5_read 134 = .ok (.getfield 19, 3) := by decide +kernel
theorem dX5_read_137 : decode cX5_read 137 = .ok (.aload_n 0, 1) := by decide +kernel
theorem dX5_read_138 : decode cX5_read 138 = .ok (.getfield 23, 3) := by decide +kernel
theorem dX5_read_141 : decode cX5_read 141 = .ok (.invokevirtual 84, 3) := by decide +kernel
theorem dX5_read_144 : decode cX5_read 144 = .ok (.aload_n 0, 1) := by decide +kernel
theorem dX5_read_145 : decode cX5_read 145 = .ok (.iload 6, 2) := by decide +kernel
theorem dX5_read_147 : decode cX5_read 147 = .ok (.putfield 251, 3) := by decide +kernel
theorem dX5_read_150 : decode cX5_read 150 = .ok (.iload 7, 2) := by decide +kernel
theorem dX5_read_152 : decode cX5_read 152 = .ok (.ireturn, 1) := by decide +kernel
theorem dX5_torn_0 : decode cX5_torn 0 = .ok (.aload_n 0, 1) := by decide +kernel
theorem dX5_torn_1 : decode cX5_torn 1 = .ok (.getfield 251, 3) := by decide +kernel
theorem dX5_torn_4 : decode cX5_torn 4 = .ok (.ireturn, 1) := by decide +kernel
theorem dX5_count_0 : decode cX5_count 0 = .ok (.iload_n 1, 1) := by decide +kernel
theorem dX5_count_1 : decode cX5_count 1 = .ok (.tableswitch 134 0 5 #[39, 47, 77, 85, 112, 123], 39) := by decide +kernel
theorem dX5_count_40 : decode cX5_count 40 = .ok (.aload_n 0, 1) := by decide +kernel
theorem dX5_count_41 : decode cX5_count 41 = .ok (.getfield 36, 3) := by decide +kernel
theorem dX5_count_44 : decode cX5_count 44 = .ok (.getfield 87, 3) := by decide +kernel
theorem dX5_count_47 : decode cX5_count 47 = .ok (.ireturn, 1) := by decide +kernel
theorem dX5_count_48 : decode cX5_count 48 = .ok (.aload_n 0, 1) := by decide +kernel
theorem dX5_count_49 : decode cX5_count 49 = .ok (.getfield 44, 3) := by decide +kernel
theorem dX5_count_52 : decode cX5_count 52 = .ok (.iconst 0, 1) := by decide +kernel
theorem dX5_count_53 : decode cX5_count 53 = .ok (.baload, 1) := by decide +kernel
theorem dX5_count_54 : decode cX5_count 54 = .ok (.ifCond .eq 7, 3) := by decide +kernel
theorem dX5_count_57 : decode cX5_count 57 = .ok (.iconst 1, 1) := by decide +kernel
theorem dX5_count_58 : decode cX5_count 58 = .ok (.goto 4, 3) := by decide +kernel
theorem dX5_count_61 : decode cX5_count 61 = .ok (.iconst 0, 1) := by decide +kernel
theorem dX5_count_62 : decode cX5_count 62 = .ok (.aload_n 0, 1) := by decide +kernel
theorem dX5_count_63 : decode cX5_count 63 = .ok (.getfield 44, 3) := by decide +kernel
theorem dX5_count_66 : decode cX5_count 66 = .ok (.iconst 1, 1) := by decide +kernel
theorem dX5_count_67 : decode cX5_count 67 = .ok (.baload, 1) := by decide +kernel
theorem dX5_count_68 : decode cX5_count 68 = .ok (.ifCond .eq 7, 3) := by decide +kernel
theorem dX5_count_71 : decode cX5_count 71 = .ok (.iconst 1, 1) := by decide +kernel
theorem dX5_count_72 : decode cX5_count 72 = .ok (.goto 4, 3) := by decide +kernel
theorem dX5_count_75 : decode cX5_count 75 = .ok (.iconst 0, 1) := by decide +kernel
theorem dX5_count_76 : decode cX5_count 76 = .ok (.iadd, 1) := by decide +kernel
theorem dX5_count_77 : decode cX5_count 77 = .ok (.ireturn, 1) := by decide +kernel
theorem dX5_count_78 : decode cX5_count 78 = .ok (.aload_n 0, 1) := by decide +kernel
theorem dX5_count_79 : decode cX5_count 79 = .ok (.getfield 12, 3) := by decide +kernel
theorem dX5_count_82 : decode cX5_count 82 = .ok (.getfield 63, 3) := by decide +kernel
theorem dX5_count_85 : decode cX5_count 85 = .ok (.ireturn, 1) := by decide +kernel
theorem dX5_count_86 : decode cX5_count 86 = .ok (.aload_n 0, 1) := by decide +kernel
theorem dX5_count_87 : decode cX5_count 87 = .ok (.getfield 50, 3) := by decide +kernel
theorem dX5_count_90 : decode cX5_count 90 = .ok (.iconst 0, 1) := by decide +kernel
theorem dX5_count_91 : decode cX5_count 91 = .ok (.aaload, 1) := by decide +kernel
theorem dX5_count_92 : decode cX5_count 92 = .ok (.invokevirtual 254, 3) := by decide +kernel
theorem dX5_count_95 : decode cX5_count 95 = .ok (.ifCond .eq 8, 3) := by decide +kernel
theorem dX5_count_98 : decode cX5_count 98 = .ok (.bipush (-4), 2) := by decide +kernel
theorem dX5_count_100 : decode cX5_count 100 = .ok (.goto 12, 3) := by decide +kernel
theorem dX5_count_103 : decode cX5_count 103 = .ok (.aload_n 0, 1) := by decide +kernel
theorem dX5_count_104 : decode cX5_count 104 = .ok (.getfield 50, 3) := by decide +kernel
theorem dX5_count_107 : decode cX5_count 107 = .ok (.iconst 0, 1) := by decide +kernel
theorem dX5_count_108 : decode cX5_count 108 = .ok (.aaload, 1) := by decide +kernel
theorem dX5_count_109 : decode cX5_count 109 = .ok (.getfield 257, 3) := by decide +kernel
theorem dX5_count_112 : decode cX5_count 112 = .ok (.ireturn, 1) := by decide +kernel
theorem dX5_count_113 : decode cX5_count 113 = .ok (.aload_n 0, 1) := by decide +kernel
theorem dX5_count_114 : decode cX5_count 114 = .ok (.getfield 19, 3) := by decide +kernel
theorem dX5_count_117 : decode cX5_count 117 = .ok (.invokevirtual 188, 3) := by decide +kernel
theorem dX5_count_120 : decode cX5_count 120 = .ok (.invokestatic 260, 3) := by decide +kernel
theorem dX5_count_123 : decode cX5_count 123 = .ok (.ireturn, 1) := by decide +kernel
theorem dX5_count_124 : decode cX5_count 124 = .ok (.aload_n 0, 1) := by decide +kernel
theorem dX5_count_125 : decode cX5_count 125 = .ok (.getfield 19, 3) := by decide +kernel
theorem dX5_count_128 : decode cX5_count 128 = .ok (.getfield 265, 3) := by decide +kernel
theorem dX5_count_131 : decode cX5_count 131 = .ok (.invokestatic 260, 3) := by decide +kernel
theorem dX5_count_134 : decode cX5_count 134 = .ok (.ireturn, 1) := by decide +kernel
theorem dX5_count_135 : decode cX5_count 135 = .ok (.iconst (-1), 1) := by decide +kernel
theorem dX5_count_136 : decode cX5_count 136 = .ok (.ireturn, 1) := by decide +kernel
theorem dX5_within_0 : decode cX5_within 0 = .ok (.iload_n 0, 1) := by decide +kernel
theorem dX5_within_1 : decode cX5_within 1 = .ok (.iload_n 1, 1) := by decide +kernel
theorem dX5_within_2 : decode cX5_within 2 = .ok (.if_icmp .lt 12, 3) := by decide +kernel
theorem dX5_within_5 : decode cX5_within 5 = .ok (.iload_n 0, 1) := by decide +kernel
theorem dX5_within_6 : decode cX5_within 6 = .ok (.iload_n 2, 1) := by decide +kernel
theorem dX5_within_7 : decode cX5_within 7 = .ok (.if_icmp .gt 7, 3) := by decide +kernel
theorem dX5_within_10 : decode cX5_within 10 = .ok (.iconst 1, 1) := by decide +kernel
theorem dX5_within_11 : decode cX5_within 11 = .ok (.goto 4, 3) := by decide +kernel
theorem dX5_within_14 : decode cX5_within 14 = .ok (.iconst 0, 1) := by decide +kernel
theorem dX5_within_15 : decode cX5_within 15 = .ok (.ireturn, 1) := by decide +kernel
theorem dX5_isFlag_0 : decode cX5_isFlag 0 = .ok (.iload_n 0, 1) := by decide +kernel
theorem dX5_isFlag_1 : decode cX5_isFlag 1 = .ok (.ifCond .eq 8, 3) := by decide +kernel
theorem dX5_isFlag_4 : decode cX5_isFlag 4 = .ok (.iload_n 0, 1) := by decide +kernel
theorem dX5_isFlag_5 : decode cX5_isFlag 5 = .ok (.iconst 1, 1) := by decide +kernel
theorem dX5_isFlag_6 : decode cX5_isFlag 6 = .ok (.if_icmp .ne 7, 3) := by decide +kernel
theorem dX5_isFlag_9 : decode cX5_isFlag 9 = .ok (.iconst 1, 1) := by decide +kernel
theorem dX5_isFlag_10 : decode cX5_isFlag 10 = .ok (.goto 4, 3) := by decide +kernel
theorem dX5_isFlag_13 : decode cX5_isFlag 13 = .ok (.iconst 0, 1) := by decide +kernel
theorem dX5_isFlag_14 : decode cX5_isFlag 14 = .ok (.ireturn, 1) := by decide +kernel
theorem dX5_has_0 : decode cX5_has 0 = .ok (.iload_n 0, 1) := by decide +kernel
theorem dX5_has_1 : decode cX5_has 1 = .ok (.iload_n 1, 1) := by decide +kernel
theorem dX5_has_2 : decode cX5_has 2 = .ok (.ishr, 1) := by decide +kernel
theorem dX5_has_3 : decode cX5_has 3 = .ok (.iconst 1, 1) := by decide +kernel
theorem dX5_has_4 : decode cX5_has 4 = .ok (.iand, 1) := by decide +kernel
theorem dX5_has_5 : decode cX5_has 5 = .ok (.iconst 1, 1) := by decide +kernel
theorem dX5_has_6 : decode cX5_has 6 = .ok (.if_icmp .ne 7, 3) := by decide +kernel
theorem dX5_has_9 : decode cX5_has 9 = .ok (.iconst 1, 1) := by decide +kernel
theorem dX5_has_10 : decode cX5_has 10 = .ok (.goto 4, 3) := by decide +kernel
theorem dX5_has_13 : decode cX5_has 13 = .ok (.iconst 0, 1) := by decide +kernel
theorem dX5_has_14 : decode cX5_has 14 = .ok (.ireturn, 1) := by decide +kernel
theorem dX5_isRot_0 : decode cX5_isRot 0 = .ok (.iload_n 0, 1) := by decide +kernel
theorem dX5_isRot_1 : decode cX5_isRot 1 = .ok (.iconst 1, 1) := by decide +kernel
theorem dX5_isRot_2 : decode cX5_isRot 2 = .ok (.if_icmp .eq 17, 3) := by decide +kernel
theorem dX5_isRot_5 : decode cX5_isRot 5 = .ok (.iload_n 0, 1) := by decide +kernel
theorem dX5_isRot_6 : decode cX5_isRot 6 = .ok (.iconst 0, 1) := by decide +kernel
theorem dX5_isRot_7 : decode cX5_isRot 7 = .ok (.bipush 9, 2) := by decide +kernel
theorem dX5_isRot_9 : decode cX5_isRot 9 = .ok (.invokestatic 55, 3) := by decide +kernel
theorem dX5_isRot_12 : decode cX5_isRot 12 = .ok (.ifCond .eq 7, 3) := by decide +kernel
theorem dX5_isRot_15 : decode cX5_isRot 15 = .ok (.iconst 1, 1) := by decide +kernel
theorem dX5_isRot_16 : decode cX5_isRot 16 = .ok (.goto 4, 3) := by decide +kernel
theorem dX5_isRot_19 : decode cX5_isRot 19 = .ok (.iconst 0, 1) := by decide +kernel
theorem dX5_isRot_20 : decode cX5_isRot 20 = .ok (.ireturn, 1) := by decide +kernel
theorem dX5_isSheet_0 : decode cX5_isSheet 0 = .ok (.iload_n 0, 1) := by decide +kernel
theorem dX5_isSheet_1 : decode cX5_isSheet 1 = .ok (.iconst 0, 1) := by decide +kernel
theorem dX5_isSheet_2 : decode cX5_isSheet 2 = .ok (.iconst 3, 1) := by decide +kernel
theorem dX5_isSheet_3 : decode cX5_isSheet 3 = .ok (.invokestatic 55, 3) := by decide +kernel
theorem dX5_isSheet_6 : decode cX5_isSheet 6 = .ok (.ireturn, 1) := by decide +kernel
theorem dX5_isLane_0 : decode cX5_isLane 0 = .ok (.iload_n 0, 1) := by decide +kernel
theorem dX5_isLane_1 : decode cX5_isLane 1 = .ok (.iconst 0, 1) := by decide +kernel
theorem dX5_isLane_2 : decode cX5_isLane 2 = .ok (.iconst 2, 1) := by decide +kernel
theorem dX5_isLane_3 : decode cX5_isLane 3 = .ok (.invokestatic 55, 3) := by decide +kernel
theorem dX5_isLane_6 : decode cX5_isLane 6 = .ok (.ireturn, 1) := by decide +kernel
theorem dX5_isLand_0 : decode cX5_isLand 0 = .ok (.iload_n 1, 1) := by decide +kernel
theorem dX5_isLand_1 : decode cX5_isLand 1 = .ok (.iconst 0, 1) := by decide +kernel
theorem dX5_isLand_2 : decode cX5_isLand 2 = .ok (.aload_n 0, 1) := by decide +kernel
theorem dX5_isLand_3 : decode cX5_isLand 3 = .ok (.getfield 19, 3) := by decide +kernel
theorem dX5_isLand_6 : decode cX5_isLand 6 = .ok (.getfield 90, 3) := by decide +kernel
theorem dX5_isLand_9 : decode cX5_isLand 9 = .ok (.iconst 1, 1) := by decide +kernel
theorem dX5_isLand_10 : decode cX5_isLand 10 = .ok (.isub, 1) := by decide +kernel
theorem dX5_isLand_11 : decode cX5_isLand 11 = .ok (.invokestatic 55, 3) := by decide +kernel
theorem dX5_isLand_14 : decode cX5_isLand 14 = .ok (.ireturn, 1) := by decide +kernel
theorem dX5_isReading_0 : decode cX5_isReading 0 = .ok (.iload_n 1, 1) := by decide +kernel
theorem dX5_isReading_1 : decode cX5_isReading 1 = .ok (.iconst 0, 1) := by decide +kernel
theorem dX5_isReading_2 : decode cX5_isReading 2 = .ok (.aload_n 0, 1) := by decide +kernel
theorem dX5_isReading_3 : decode cX5_isReading 3 = .ok (.getfield 19, 3) := by decide +kernel
theorem dX5_isReading_6 : decode cX5_isReading 6 = .ok (.getfield 93, 3) := by decide +kernel
theorem dX5_isReading_9 : decode cX5_isReading 9 = .ok (.iconst 1, 1) := by decide +kernel
theorem dX5_isReading_10 : decode cX5_isReading 10 = .ok (.isub, 1) := by decide +kernel
theorem dX5_isReading_11 : decode cX5_isReading 11 = .ok (.invokestatic 55, 3) := by decide +kernel
theorem dX5_isReading_14 : decode cX5_isReading 14 = .ok (.ireturn, 1) := by decide +kernel
theorem dX5_isSafe_0 : decode cX5_isSafe 0 = .ok (.iconst 0, 1) := by decide +kernel
theorem dX5_isSafe_1 : decode cX5_isSafe 1 = .ok (.istore 5, 2) := by decide +kernel
theorem dX5_isSafe_3 : decode cX5_isSafe 3 = .ok (.iload 5, 2) := by decide +kernel
theorem dX5_isSafe_5 : decode cX5_isSafe 5 = .ok (.aload_n 0, 1) := by decide +kernel
theorem dX5_isSafe_6 : decode cX5_isSafe 6 = .ok (.getfield 19, 3) := by decide +kernel
theorem dX5_isSafe_9 : decode cX5_isSafe 9 = .ok (.getfield 93, 3) := by decide +kernel
theorem dX5_isSafe_12 : decode cX5_isSafe 12 = .ok (.if_icmp .ge 74, 3) := by decide +kernel
theorem dX5_isSafe_15 : decode cX5_isSafe 15 = .ok (.aload_n 0, 1) := by decide +kernel
theorem dX5_isSafe_16 : decode cX5_isSafe 16 = .ok (.getfield 19, 3) := by decide +kernel
theorem dX5_isSafe_19 : decode cX5_isSafe 19 = .ok (.iload 5, 2) := by decide +kernel
theorem dX5_isSafe_21 : decode cX5_isSafe 21 = .ok (.invokevirtual 149, 3) := by decide +kernel
theorem dX5_isSafe_24 : decode cX5_isSafe 24 = .ok (.ifCond .eq 56, 3) := by decide +kernel
theorem dX5_isSafe_27 : decode cX5_isSafe 27 = .ok (.aload_n 0, 1) := by decide +kernel
theorem dX5_isSafe_28 : decode cX5_isSafe 28 = .ok (.getfield 23, 3) := by decide +kernel
theorem dX5_isSafe_31 : decode cX5_isSafe 31 = .ok (.aload_n 0, 1) := by decide +kernel
theorem dX5_isSafe_32 : decode cX5_isSafe 32 = .ok (.getfield 19, 3) := by decide +kernel
theorem dX5_isSafe_35 : decode cX5_isSafe 35 = .ok (.invokevirtual 84, 3) := by decide +kernel
theorem dX5_isSafe_38 : decode cX5_isSafe 38 = .ok (.aload_n 0, 1) := by decide +kernel
theorem dX5_isSafe_39 : decode cX5_isSafe 39 = .ok (.getfield 23, 3) := by decide +kernel
theorem dX5_isSafe_42 : decode cX5_isSafe 42 = .ok (.iload_n 1, 1) := by decide +kernel
theorem dX5_isSafe_43 : decode cX5_isSafe 43 = .ok (.iload_n 2, 1) := by decide +kernel
theorem dX5_isSafe_44 : decode cX5_isSafe 44 = .ok (.invokevirtual 166, 3) := by decide +kernel
theorem dX5_isSafe_47 : decode cX5_isSafe 47 = .ok (.aload_n 0, 1) := by decide +kernel
theorem dX5_isSafe_48 : decode cX5_isSafe 48 = .ok (.getfield 23, 3) := by decide +kernel
theorem dX5_isSafe_51 : decode cX5_isSafe 51 = .ok (.iload_n 3, 1) := by decide +kernel
theorem dX5_isSafe_52 : decode cX5_isSafe 52 = .ok (.putfield 102, 3) := by decide +kernel
theorem dX5_isSafe_55 : decode cX5_isSafe 55 = .ok (.aload_n 0, 1) := by decide +kernel
theorem dX5_isSafe_56 : decode cX5_isSafe 56 = .ok (.getfield 23, 3) := by decide +kernel
theorem dX5_isSafe_59 : decode cX5_isSafe 59 = .ok (.iload 4, 2) := by decide +kernel
theorem dX5_isSafe_61 : decode cX5_isSafe 61 = .ok (.putfield 108, 3) := by decide +kernel
theorem dX5_isSafe_64 : decode cX5_isSafe 64 = .ok (.aload_n 0, 1) := by decide +kernel
theorem dX5_isSafe_65 : decode cX5_isSafe 65 = .ok (.getfield 23, 3) := by decide +kernel
theorem dX5_isSafe_68 : decode cX5_isSafe 68 = .ok (.iload 5, 2) := by decide +kernel
theorem dX5_isSafe_70 : decode cX5_isSafe 70 = .ok (.invokevirtual 185, 3) := by decide +kernel
theorem dX5_isSafe_73 : decode cX5_isSafe 73 = .ok (.bipush (-4), 2) := by decide +kernel
theorem dX5_isSafe_75 : decode cX5_isSafe 75 = .ok (.if_icmp .eq 5, 3) := by decide +kernel
theorem dX5_isSafe_78 : decode cX5_isSafe 78 = .ok (.iconst 0, 1) := by decide +kernel
theorem dX5_isSafe_79 : decode cX5_isSafe 79 = .ok (.ireturn, 1) := by decide +kernel
theorem dX5_isSafe_80 : decode cX5_isSafe 80 = .ok (.iinc 5 1, 3) := by decide +kernel
theorem dX5_isSafe_83 : decode cX5_isSafe 83 = .ok (.goto (-80), 3) := by decide +kernel
theorem dX5_isSafe_86 : decode cX5_isSafe 86 = .ok (.iconst 1, 1) := by decide +kernel
theorem dX5_isSafe_87 : decode cX5_isSafe 87 = .ok (.ireturn, 1) := by decide +kernel
theorem dX5_isAsSeen_0 : decode cX5_isAsSeen 0 = .ok (.aload_n 0, 1) := by decide +kernel
theorem dX5_isAsSeen_1 : decode cX5_isAsSeen 1 = .ok (.getfield 23, 3) := by decide +kernel
theorem dX5_isAsSeen_4 : decode cX5_isAsSeen 4 = .ok (.aload_n 0, 1) := by decide +kernel
theorem dX5_isAsSeen_5 : decode cX5_isAsSeen 5 = .ok (.getfield 19, 3) := by decide +kernel
theorem dX5_isAsSeen_8 : decode cX5_isAsSeen 8 = .ok (.invokevirtual 84, 3) := by decide +kernel
theorem dX5_isAsSeen_11 : decode cX5_isAsSeen 11 = .ok (.aload_n 0, 1) := by decide +kernel
theorem dX5_isAsSeen_12 : decode cX5_isAsSeen 12 = .ok (.getfield 23, 3) := by decide +kernel
theorem dX5_isAsSeen_15 : decode cX5_isAsSeen 15 = .ok (.iload_n 2, 1) := by decide +kernel
theorem dX5_isAsSeen_16 : decode cX5_isAsSeen 16 = .ok (.iload_n 3, 1) := by decide +kernel
theorem dX5_isAsSeen_17 : decode cX5_isAsSeen 17 = .ok (.invokevirtual 166, 3) := by decide +kernel
theorem dX5_isAsSeen_20 : decode cX5_isAsSeen 20 = .ok (.iconst 1, 1) := by decide +kernel
theorem dX5_isAsSeen_21 : decode cX5_isAsSeen 21 = .ok (.istore 5, 2) := by decide +kernel
theorem dX5_isAsSeen_23 : decode cX5_isAsSeen 23 = .ok (.iload 5, 2) := by decide +kernel
theorem dX5_isAsSeen_25 : decode cX5_isAsSeen 25 = .ok (.bipush 8, 2) := by decide +kernel
theorem dX5_isAsSeen_27 : decode cX5_isAsSeen 27 = .ok (.if_icmp .gt 84, 3) := by decide +kernel
theorem dX5_isAsSeen_30 : decode cX5_isAsSeen 30 = .ok (.aload_n 0, 1) := by decide +kernel
theorem dX5_isAsSeen_31 : decode cX5_isAsSeen 31 = .ok (.getfield 23, 3) := by decide +kernel
theorem dX5_isAsSeen_34 : decode cX5_isAsSeen 34 = .ok (.invokevirtual 173, 3) := by decide +kernel
theorem dX5_isAsSeen_37 : decode cX5_isAsSeen 37 = .ok (.ifCond .ne 47, 3) := by decide +kernel
theorem dX5_isAsSeen_40 : decode cX5_isAsSeen 40 = .ok (.aload_n 0, 1) := by decide +kernel
theorem dX5_isAsSeen_41 : decode cX5_isAsSeen 41 = .ok (.getfield 23, 3) := by decide +kernel
theorem dX5_isAsSeen_44 : decode cX5_isAsSeen 44 = .ok (.aload_n 0, 1) := by decide +kernel
theorem dX5_isAsSeen_45 : decode cX5_isAsSeen 45 = .ok (.getfield 23, 3) := by decide +kernel
theorem dX5_isAsSeen_48 : decode cX5_isAsSeen 48 = .ok (.iload_n 1, 1) := by decide +kernel
theorem dX5_isAsSeen_49 : decode cX5_isAsSeen 49 = .ok (.aload_n 0, 1) := by decide +kernel
theorem dX5_isAsSeen_50 : decode cX5_isAsSeen 50 = .ok (.getfield 23, 3) := by decide +kernel
theorem dX5_isAsSeen_53 : decode cX5_isAsSeen 53 = .ok (.getfield 123, 3) := by decide +kernel
theorem dX5_isAsSeen_56 : decode cX5_isAsSeen 56 = .ok (.invokevirtual 152, 3) := by decide +kernel
theorem dX5_isAsSeen_59 : decode cX5_isAsSeen 59 = .ok (.invokevirtual 176, 3) := by decide +kernel
theorem dX5_isAsSeen_62 : decode cX5_isAsSeen 62 = .ok (.pop, 1) := by decide +kernel
theorem dX5_isAsSeen_63 : decode cX5_isAsSeen 63 = .ok (.aload_n 0, 1) := by decide +kernel
theorem dX5_isAsSeen_64 : decode cX5_isAsSeen 64 = .ok (.getfield 23, 3) := by decide +kernel
theorem dX5_isAsSeen_67 : decode cX5_isAsSeen 67 = .ok (.iconst 0, 1) := by decide +kernel
theorem dX5_isAsSeen_68 : decode cX5_isAsSeen 68 = .ok (.aload_n 0, 1) := by decide +kernel
theorem dX5_isAsSeen_69 : decode cX5_isAsSeen 69 = .ok (.getfield 23, 3) := by decide +kernel
theorem dX5_isAsSeen_72 : decode cX5_isAsSeen 72 = .ok (.getfield 108, 3) := by decide +kernel
theorem dX5_isAsSeen_75 : decode cX5_isAsSeen 75 = .ok (.iload 4, 2) := by decide +kernel
theorem dX5_isAsSeen_77 : decode cX5_isAsSeen 77 = .ok (.isub, 1) := by decide +kernel
theorem dX5_isAsSeen_78 : decode cX5_isAsSeen 78 = .ok (.invokestatic 268, 3) := by decide +kernel
theorem dX5_isAsSeen_81 : decode cX5_isAsSeen 81 = .ok (.putfield 108, 3) := by decide +kernel
theorem dX5_isAsSeen_84 : decode cX5_isAsSeen 84 = .ok (.aload_n 0, 1) := by decide +kernel
theorem dX5_isAsSeen_85 : decode cX5_isAsSeen 85 = .ok (.getfield 36, 3) := by decide +kernel
theorem dX5_isAsSeen_88 : decode cX5_isAsSeen 88 = .ok (.iload 5, 2) := by decide +kernel
theorem dX5_isAsSeen_90 : decode cX5_isAsSeen 90 = .ok (.aload_n 0, 1) := by decide +kernel
theorem dX5_isAsSeen_91 : decode cX5_isAsSeen 91 = .ok (.getfield 23, 3) := by decide +kernel
theorem dX5_isAsSeen_94 : decode cX5_isAsSeen 94 = .ok (.getfield 108, 3) := by decide +kernel
theorem dX5_isAsSeen_97 : decode cX5_isAsSeen 97 = .ok (.invokevirtual 273, 3) := by decide +kernel
theorem dX5_isAsSeen_100 : decode cX5_isAsSeen 100 = .ok (.ifCond .ne 5, 3) := by decide +kernel
theorem dX5_isAsSeen_103 : decode cX5_isAsSeen 103 = .ok (.iconst 0, 1) := by decide +kernel
theorem dX5_isAsSeen_104 : decode cX5_isAsSeen 104 = .ok (.ireturn, 1) := by decide +kernel
theorem dX5_isAsSeen_105 : decode cX5_isAsSeen 105 = .ok (.iinc 5 1, 3) := by decide +kernel
theorem dX5_isAsSeen_108 : decode cX5_isAsSeen 108 = .ok (.goto (-85), 3) := by decide +kernel
theorem dX5_isAsSeen_111 : decode cX5_isAsSeen 111 = .ok (.iconst 1, 1) := by decide +kernel
theorem dX5_isAsSeen_112 : decode cX5_isAsSeen 112 = .ok (.ireturn, 1) := by decide +kernel
theorem dX5_fraction_0 : decode cX5_fraction 0 = .ok (.iload_n 0, 1) := by decide +kernel
theorem dX5_fraction_1 : decode cX5_fraction 1 = .ok (.invokestatic 276, 3) := by decide +kernel
theorem dX5_fraction_4 : decode cX5_fraction 4 = .ok (.iload_n 1, 1) := by decide +kernel
theorem dX5_fraction_5 : decode cX5_fraction 5 = .ok (.invokestatic 279, 3) := by decide +kernel
theorem dX5_fraction_8 : decode cX5_fraction 8 = .ok (.istore_n 3, 1) := by decide +kernel
theorem dX5_fraction_9 : decode cX5_fraction 9 = .ok (.iload_n 3, 1) := by decide +kernel
theorem dX5_fraction_10 : decode cX5_fraction 10 = .ok (.ifCond .ne 6, 3) := by decide +kernel
theorem dX5_fraction_13 : decode cX5_fraction 13 = .ok (.iload_n 2, 1) := by decide +kernel
theorem dX5_fraction_14 : decode cX5_fraction 14 = .ok (.i2l, 1) := by decide +kernel
theorem dX5_fraction_15 : decode cX5_fraction 15 = .ok (.lreturn, 1) := by decide +kernel
theorem dX5_fraction_16 : decode cX5_fraction 16 = .ok (.iload_n 2, 1) := by decide +kernel
theorem dX5_fraction_17 : decode cX5_fraction 17 = .ok (.ifCond .ne 10, 3) := by decide +kernel
theorem dX5_fraction_20 : decode cX5_fraction 20 = .ok (.iload_n 0, 1) := by decide +kernel
theorem dX5_fraction_21 : decode cX5_fraction 21 = .ok (.iload_n 3, 1) := by decide +kernel
theorem dX5_fraction_22 : decode cX5_fraction 22 = .ok (.idiv, 1) := by decide +kernel
theorem dX5_fraction_23 : decode cX5_fraction 23 = .ok (.i2l, 1) := by decide +kernel
theorem dX5_fraction_24 : decode cX5_fraction 24 = .ok (.goto 7, 3) := by decide +kernel
theorem dX5_fraction_27 : decode cX5_fraction 27 = .ok (.iload_n 1, 1) := by decide +kernel
theorem dX5_fraction_28 : decode cX5_fraction 28 = .ok (.iload_n 3, 1) := by decide +kernel
theorem dX5_fraction_29 : decode cX5_fraction 29 = .ok (.idiv, 1) := by decide +kernel
theorem dX5_fraction_30 : decode cX5_fraction 30 = .ok (.i2l, 1) := by decide +kernel
theorem dX5_fraction_31 : decode cX5_fraction 31 = .ok (.lreturn, 1) := by decide +kernel
theorem dX5_greatestDivisor_0 : decode cX5_greatestDivisor 0 = .ok (.iload_n 0, 1) := by decide +kernel
theorem dX5_greatestDivisor_1 : decode cX5_greatestDivisor 1 = .ok (.istore_n 2, 1) := by decide +kernel
theorem dX5_greatestDivisor_2 : decode cX5_greatestDivisor 2 = .ok (.iload_n 1, 1) := by decide +kernel
theorem dX5_greatestDivisor_3 : decode cX5_greatestDivisor 3 = .ok (.istore_n 3, 1) := by decide +kernel
theorem dX5_greatestDivisor_4 : decode cX5_greatestDivisor 4 = .ok (.iconst 0, 1) := by decide +kernel
theorem dX5_greatestDivisor_5 : decode cX5_greatestDivisor 5 = .ok (.istore 4, 2) := by decide +kernel
theorem dX5_greatestDivisor_7 : decode cX5_greatestDivisor 7 = .ok (.iload 4, 2) := by decide +kernel
theorem dX5_greatestDivisor_9 : decode cX5_greatestDivisor 9 = .ok (.bipush 64, 2) := by decide +kernel
theorem dX5_greatestDivisor_11 : decode cX5_greatestDivisor 11 = .ok (.if_icmp .ge 23, 3) := by decide +kernel
theorem dX5_greatestDivisor_14 : decode cX5_greatestDivisor 14 = .ok (.iload_n 3, 1) := by decide +kernel
theorem dX5_greatestDivisor_15 : decode cX5_greatestDivisor 15 = .ok (.ifCond .eq 19, 3) := by decide +kernel
theorem dX5_greatestDivisor_18 : decode cX5_greatestDivisor 18 = .ok (.iload_n 2, 1) := by decide +kernel
theorem dX5_greatestDivisor_19 : decode cX5_greatestDivisor 19 = .ok (.iload_n 3, 1) := by decide +kernel
theorem dX5_greatestDivisor_20 : decode cX5_greatestDivisor 20 = .ok (.irem, 1) := by decide +kernel
theorem dX5_greatestDivisor_21 : decode cX5_greatestDivisor 21 = .ok (.istore 5, 2) := by decide +kernel
theorem dX5_greatestDivisor_23 : decode cX5_greatestDivisor 23 = .ok (.iload_n 3, 1) := by decide +kernel
theorem dX5_greatestDivisor_24 : decode cX5_greatestDivisor 24 = .ok (.istore_n 2, 1) := by decide +kernel
theorem dX5_greatestDivisor_25 : decode cX5_greatestDivisor 25 = .ok (.iload 5, 2) := by decide +kernel
theorem dX5_greatestDivisor_27 : decode cX5_greatestDivisor 27 = .ok (.istore_n 3, 1) := by decide +kernel
theorem dX5_greatestDivisor_28 : decode cX5_greatestDivisor 28 = .ok (.iinc 4 1, 3) := by decide +kernel
theorem dX5_greatestDivisor_31 : decode cX5_greatestDivisor 31 = .ok (.goto (-24), 3) := by decide +kernel
theorem dX5_greatestDivisor_34 : decode cX5_greatestDivisor 34 = .ok (.iload_n 2, 1) := by decide +kernel
theorem dX5_greatestDivisor_35 : decode cX5_greatestDivisor 35 = .ok (.ireturn, 1) := by decide +kernel
end
section
theorem dX6_init_0 : decode cX6_init 0 = .ok (.aload_n 0, 1) := by decide +kernel
theorem dX6_init_1 : decode cX6_init 1 = .ok (.invokespecial 1, 3) := by decide +kernel
theorem dX6_init_4 : decode cX6_init 4 = .ok (.aload_n 0, 1) := by decide +kernel
theorem dX6_init_5 : decode cX6_init 5 = .ok (.bipush 125, 2) := by decide +kernel
theorem dX6_init_7 : decode cX6_init 7 = .ok (.newarray .int, 2) := by decide +kernel
theorem dX6_init_9 : decode cX6_init 9 = .ok (.putfield 7, 3) := by decide +kernel
theorem dX6_init_12 : decode cX6_init 12 = .ok (.aload_n 0, 1) := by decide +kernel
theorem dX6_init_13 : decode cX6_init 13 = .ok (.iconst 4, 1) := by decide +kernel
theorem dX6_init_14 : decode cX6_init 14 = .ok (.newarray .int, 2) := by decide +kernel
theorem dX6_init_16 : decode cX6_init 16 = .ok (.putfield 13, 3) := by decide +kernel
theorem dX6_init_19 : decode cX6_init 19 = .ok (.aload_n 0, 1) := by decide +kernel
theorem dX6_init_20 : decode cX6_init 20 = .ok (.bipush 25, 2) := by decide +kernel
theorem dX6_init_22 : decode cX6_init 22 = .ok (.newarray .int, 2) := by decide +kernel
theorem dX6_init_24 : decode cX6_init 24 = .ok (.putfield 16, 3) := by decide +kernel
theorem dX6_init_27 : decode cX6_init 27 = .ok (.aload_n 0, 1) := by decide +kernel
theorem dX6_init_28 : decode cX6_init 28 = .ok (.iconst 4, 1) := by decide +kernel
theorem dX6_init_29 : decode cX6_init 29 = .ok (.newarray .int, 2) := by decide +kernel
theorem dX6_init_31 : decode cX6_init 31 = .ok (.putfield 19, 3) := by decide +kernel
theorem dX6_init_34 : decode cX6_init 34 = .ok (.aload_n 0, 1) := by decide +kernel
theorem dX6_init_35 : decode cX6_init 35 = .ok (.sipush 160, 3) := by decide +kernel
theorem dX6_init_38 : decode cX6_init 38 = .ok (.newarray .int, 2) := by decide +kernel
theorem dX6_init_40 : decode cX6_init 40 = .ok (.putfield 22, 3) := by decide +kernel
theorem dX6_init_43 : decode cX6_init 43 = .ok (.aload_n 0, 1) := by decide +kernel
theorem dX6_init_44 : decode cX6_init 44 = .ok (.bipush 12, 2) := by decide +kernel
theorem dX6_init_46 : decode cX6_init 46 = .ok (.newarray .int, 2) := by decide +kernel
theorem dX6_init_48 : decode cX6_init 48 = .ok (.dup, 1) := by decide +kernel
theorem dX6_init_49 : decode cX6_init 49 = .ok (.iconst 0, 1) := by decide +kernel
theorem dX6_init_50 : decode cX6_init 50 = .ok (.iconst 0, 1) := by decide +kernel
theorem dX6_init_51 : decode cX6_init 51 = .ok (.iastore, 1) := by decide +kernel
theorem dX6_init_52 : decode cX6_init 52 = .ok (.dup, 1) := by decide +kernel
theorem dX6_init_53 : decode cX6_init 53 = .ok (.iconst 1, 1) := by decide +kernel
theorem dX6_init_54 : decode cX6_init 54 = .ok (.iconst 4, 1) := by decide +kernel
theorem dX6_init_55 : decode cX6_init 55 = .ok (.iastore, 1) := by decide +kernel
theorem dX6_init_56 : decode cX6_init 56 = .ok (.dup, 1) := by decide +kernel
theorem dX6_init_57 : decode cX6_init 57 = .ok (.iconst 2, 1) := by decide +kernel
theorem dX6_init_58 : decode cX6_init 58 = .ok (.bipush 9, 2) := by decide +kernel
theorem dX6_init_60 : decode cX6_init 60 = .ok (.iastore, 1) := by decide +kernel
theorem dX6_init_61 : decode cX6_init 61 = .ok (.dup, 1) := by decide +kernel
theorem dX6_init_62 : decode cX6_init 62 = .ok (.iconst 3, 1) := by decide +kernel
theorem dX6_init_63 : decode cX6_init 63 = .ok (.bipush 15, 2) := by decide +kernel
theorem dX6_init_65 : decode cX6_init 65 = .ok (.iastore, 1) := by decide +kernel
theorem dX6_init_66 : decode cX6_init 66 = .ok (.dup, 1) := by decide +kernel
theorem dX6_init_67 : decode cX6_init 67 = .ok (.iconst 4, 1) := by decide +kernel
theorem dX6_init_68 : decode cX6_init 68 = .ok (.bipush 22, 2) := by decide +kernel
theorem dX6_init_70 : decode cX6_init 70 = .ok (.iastore, 1) := by decide +kernel
theorem dX6_init_71 : decode cX6_init 71 = .ok (.dup, 1) := by decide +kernel
theorem dX6_init_72 : decode cX6_init 72 = .ok (.iconst 5, 1) := by decide +kernel
theorem dX6_init_73 : decode cX6_init 73 = .ok (.bipush 27, 2) := by decide +kernel
theorem dX6_init_75 : decode cX6_init 75 = .ok (.iastore, 1) := by decide +kernel
theorem dX6_init_76 : decode cX6_init 76 = .ok (.dup, 1) := by decide +kernel
theorem dX6_init_77 : decode cX6_init 77 = .ok (.bipush 6, 2) := by decide +kernel
theorem dX6_init_79 : decode cX6_init 79 = .ok (.bipush 34, 2) := by decide +kernel
theorem dX6_init_81 : decode cX6_init 81 = .ok (.iastore, 1) := by decide +kernel
theorem dX6_init_82 : decode cX6_init 82 = .ok (.dup, 1) := by decide +kernel
theorem dX6_init_83 : decode cX6_init 83 = .ok (.bipush 7, 2) := by decide +kernel
theorem dX6_init_85 : decode cX6_init 85 = .ok (.bipush 37, 2) := by decide +kernel
theorem dX6_init_87 : decode cX6_init 87 = .ok (.iastore, 1) := by decide +kernel
theorem dX6_init_88 : decode cX6_init 88 = .ok (.dup, 1) := by decide +kernel
theorem dX6_init_89 : decode cX6_init 89 = .ok (.bipush 8, 2) := by decide +kernel
theorem dX6_init_91 : decode cX6_init 91 = .ok (.bipush 41, 2) := by decide +kernel
theorem dX6_init_93 : decode cX6_init 93 = .ok (.iastore, 1) := by decide +kernel
theorem dX6_init_94 : decode cX6_init 94 = .ok (.dup, 1) := by decide +kernel
theorem dX6_init_95 : decode cX6_init 95 = .ok (.bipush 9, 2) := by decide +kernel
theorem dX6_init_97 : decode cX6_init 97 = .ok (.bipush 46, 2) := by decide +kernel
theorem dX6_init_99 : decode cX6_init 99 = .ok (.iastore, 1) := by decide +kernel
theorem dX6_init_100 : decode cX6_init 100 = .ok (.dup, 1) := by decide +kernel
theorem dX6_init_101 : decode cX6_init 101 = .ok (.bipush 10, 2) := by decide +kernel
theorem dX6_init_103 : decode cX6_init 103 = .ok (.bipush 50, 2) := by decide +kernel
theorem dX6_init_105 : decode cX6_init 105 = .ok (.iastore, 1) := by decide +kernel
theorem dX6_init_106 : decode cX6_init 106 = .ok (.dup, 1) := by decide +kernel
theorem dX6_init_107 : decode cX6_init 107 = .ok (.bipush 11, 2) := by decide +kernel
theorem dX6_init_109 : decode cX6_init 109 = .ok (.bipush 54, 2) := by decide +kernel
theorem dX6_init_111 : decode cX6_init 111 = .ok (.iastore, 1) := by decide +kernel
theorem dX6_init_112 : decode cX6_init 112 = .ok (.putfield 25, 3) := by decide +kernel
theorem dX6_init_115 : decode cX6_init 115 = .ok (.aload_n 0, 1) := by decide +kernel
theorem dX6_init_116 : decode cX6_init 116 = .ok (.bipush 54, 2) := by decide +kernel
theorem dX6_init_118 : decode cX6_init 118 = .ok (.newarray .int, 2) := by decide +kernel
theorem dX6_init_120 : decode cX6_init 120 = .ok (.dup, 1) := by decide +kernel
theorem dX6_init_121 : decode cX6_init 121 = .ok (.iconst 0, 1) := by decide +kernel
theorem dX6_init_122 : decode cX6_init 122 = .ok (.bipush 108, 2) := by decide +kernel
theorem dX6_init_124 : decode cX6_init 124 = .ok (.iastore, 1) := by decide +kernel
theorem dX6_init_125 : decode cX6_init 125 = .ok (.dup, 1) := by decide +kernel
theorem dX6_init_126 : decode cX6_init 126 = .ok (.iconst 1, 1) := by decide +kernel
theorem dX6_init_127 : decode cX6_init 127 = .ok (.bipush 97, 2) := by decide +kernel
theorem dX6_init_129 : decode cX6_init 129 = .ok (.iastore, 1) := by decide +kernel
theorem dX6_init_130 : decode cX6_init 130 = .ok (.dup, 1) := by decide +kernel
theorem dX6_init_131 : decode cX6_init 131 = .ok (.iconst 2, 1) := by decide +kernel
theorem dX6_init_132 : decode cX6_init 132 = .ok (.bipush 110, 2) := by decide +kernel
theorem dX6_init_134 : decode cX6_init 134 = .ok (.iastore, 1) := by decide +kernel
theorem dX6_init_135 : decode cX6_init 135 = .ok (.dup, 1) := by decide +kernel
theorem dX6_init_136 : decode cX6_init 136 = .ok (.iconst 3, 1) := by decide +kernel
theorem dX6_init_137 : decode cX6_init 137 = .ok (.bipush 100, 2) := by decide +kernel
theorem dX6_init_139 : decode cX6_init 139 = .ok (.iastore, 1) := by decide +kernel
theorem dX6_init_140 : decode cX6_init 140 = .ok (.dup, 1) := by decide +kernel
theorem dX6_init_141 : decode cX6_init 141 = .ok (.iconst 4, 1) := by decide +kernel
theorem dX6_init_142 : decode cX6_init 142 = .ok (.bipush 100, 2) := by decide +kernel
theorem dX6_init_144 : decode cX6_init 144 = .ok (.iastore, 1) := by decide +kernel
theorem dX6_init_145 : decode cX6_init 145 = .ok (.dup, 1) := by decide +kernel
theorem dX6_init_146 : decode cX6_init 146 = .ok (.iconst 5, 1) := by decide +kernel
theorem dX6_init_147 : decode cX6_init 147 = .ok (.bipush 114, 2) := by decide +kernel
theorem dX6_init_149 : decode cX6_init 149 = .ok (.iastore, 1) := by decide +kernel
theorem dX6_init_150 : decode cX6_init 150 = .ok (.dup, 1) := by decide +kernel
theorem dX6_init_151 : decode cX6_init 151 = .ok (.bipush 6, 2) := by decide +kernel
theorem dX6_init_153 : decode cX6_init 153 = .ok (.bipush 101, 2) := by decide +kernel
theorem dX6_init_155 : decode cX6_init 155 = .ok (.iastore, 1) := by decide +kernel
theorem dX6_init_156 : decode cX6_init 156 = .ok (.dup, 1) := by decide +kernel
theorem dX6_init_157 : decode cX6_init 157 = .ok (.bipush 7, 2) := by decide +kernel
theorem dX6_init_159 : decode cX6_init 159 = .ok (.bipush 97, 2) := by decide +kernel
theorem dX6_init_161 : decode cX6_init 161 = .ok (.iastore, 1) := by decide +kernel
theorem dX6_init_162 : decode cX6_init 162 = .ok (.dup, 1) := by decide +kernel
theorem dX6_init_163 : decode cX6_init 163 = .ok (.bipush 8, 2) := by decide +kernel
theorem dX6_init_165 : decode cX6_init 165 = .ok (.bipush 109, 2) := by decide +kernel
theorem dX6_init_167 : decode cX6_init 167 = .ok (.iastore, 1) := by decide +kernel
theorem dX6_init_168 : decode cX6_init 168 = .ok (.dup, 1) := by decide +kernel
theorem dX6_init_169 : decode cX6_init 169 = .ok (.bipush 9, 2) := by decide +kernel
theorem dX6_init_171 : decode cX6_init 171 = .ok (.bipush 112, 2) := by decide +kernel
theorem dX6_init_173 : decode cX6_init 173 = .ok (.iastore, 1) := by decide +kernel
theorem dX6_init_174 : decode cX6_init 174 = .ok (.dup, 1) := by decide +kernel
theorem dX6_init_175 : decode cX6_init 175 = .ok (.bipush 10, 2) := by decide +kernel
theorem dX6_init_177 : decode cX6_init 177 = .ok (.bipush 101, 2) := by decide +kernel
theorem dX6_init_179 : decode cX6_init 179 = .ok (.iastore, 1) := by decide +kernel
theorem dX6_init_180 : decode cX6_init 180 = .ok (.dup, 1) := by decide +kernel
theorem dX6_init_181 : decode cX6_init 181 = .ok (.bipush 11, 2) := by decide +kernel
theorem dX6_init_183 : decode cX6_init 183 = .ok (.bipush 111, 2) := by decide +kernel
theorem dX6_init_185 : decode cX6_init 185 = .ok (.iastore, 1) := by decide +kernel
theorem dX6_init_186 : decode cX6_init 186 = .ok (.dup, 1) := by decide +kernel
theorem dX6_init_187 : decode cX6_init 187 = .ok (.bipush 12, 2) := by decide +kernel
theorem dX6_init_189 : decode cX6_init 189 = .ok (.bipush 112, 2) := by decide +kernel
theorem dX6_init_191 : decode cX6_init 191 = .ok (.iastore, 1) := by decide +kernel
theorem dX6_init_192 : decode cX6_init 192 = .ok (.dup, 1) := by decide +kernel
theorem dX6_init_193 : decode cX6_init 193 = .ok (.bipush 13, 2) := by decide +kernel
theorem dX6_init_195 : decode cX6_init 195 = .ok (.bipush 108, 2) := by decide +kernel
theorem dX6_init_197 : decode cX6_init 197 = .ok (.iastore, 1) := by decide +kernel
theorem dX6_init_198 : decode cX6_init 198 = .ok (.dup, 1) := by decide +kernel
theorem dX6_init_199 : decode cX6_init 199 = .ok (.bipush 14, 2) := by decide +kernel
theorem dX6_init_201 : decode cX6_init 201 = .ok (.bipush 101, 2) := by decide +kernel
theorem dX6_init_203 : decode cX6_init 203 = .ok (.iastore, 1) := by decide +kernel
theorem dX6_init_204 : decode cX6_init 204 = .ok (.dup, 1) := by decide +kernel
theorem dX6_init_205 : decode cX6_init 205 = .ok (.bipush 15, 2) := by decide +kernel
theorem dX6_init_207 : decode cX6_init 207 = .ok (.bipush 103, 2) := by decide +kernel
theorem dX6_init_209 : decode cX6_init 209 = .ok (.iastore, 1) := by decide +kernel
theorem dX6_init_210 : decode cX6_init 210 = .ok (.dup, 1) := by decide +kernel
theorem dX6_init_211 : decode cX6_init 211 = .ok (.bipush 16, 2) := by decide +kernel
theorem dX6_init_213 : decode cX6_init 213 = .ok (.bipush 114, 2) := by decide +kernel
theorem dX6_init_215 : decode cX6_init 215 = .ok (.iastore, 1) := by decide +kernel
theorem dX6_init_216 : decode cX6_init 216 = .ok (.dup, 1) := by decide +kernel
theorem dX6_init_217 : decode cX6_init 217 = .ok (.bipush 17, 2) := by decide +kernel
theorem dX6_init_219 : decode cX6_init 219 = .ok (.bipush 97, 2) := by decide +kernel
theorem dX6_init_221 : decode cX6_init 221 = .ok (.iastore, 1) := by decide +kernel
theorem dX6_init_222 : decode cX6_init 222 = .ok (.dup, 1) := by decide +kernel
theorem dX6_init_223 : decode cX6_init 223 = .ok (.bipush 18, 2) := by decide +kernel
theorem dX6_init_225 : decode cX6_init 225 = .ok (.bipush 110, 2) := by decide +kernel
theorem dX6_init_227 : decode cX6_init 227 = .ok (.iastore, 1) := by decide +kernel
theorem dX6_init_228 : decode cX6_init 228 = .ok (.dup, 1) := by decide +kernel
theorem dX6_init_229 : decode cX6_init 229 = .ok (.bipush 19, 2) := by decide +kernel
theorem dX6_init_231 : decode cX6_init 231 = .ok (.bipush 97, 2) := by decide +kernel
theorem dX6_init_233 : decode cX6_init 233 = .ok (.iastore, 1) := by decide +kernel
theorem dX6_init_234 : decode cX6_init 234 = .ok (.dup, 1) := by decide +kernel
theorem dX6_init_235 : decode cX6_init 235 = .ok (.bipush 20, 2) := by decide +kernel
theorem dX6_init_237 : decode cX6_init 237 = .ok (.bipush 114, 2) := by decide +kernel
theorem dX6_init_239 : decode cX6_init 239 = .ok (.iastore, 1) := by decide +kernel
theorem dX6_init_240 : decode cX6_init 240 = .ok (.dup, 1) := by decide +kernel
theorem dX6_init_241 : decode cX6_init 241 = .ok (.bipush 21, 2) := by decide +kernel
theorem dX6_init_243 : decode cX6_init 243 = .ok (.bipush 121, 2) := by decide +kernel
theorem dX6_init_245 : decode cX6_init 245 = .ok (.iastore, 1) := by decide +kernel
theorem dX6_init_246 : decode cX6_init 246 = .ok (.dup, 1) := by decide +kernel
theorem dX6_init_247 : decode cX6_init 247 = .ok (.bipush 22, 2) := by decide +kernel
theorem dX6_init_249 : decode cX6_init 249 = .ok (.bipush 112, 2) := by decide +kernel
theorem dX6_init_251 : decode cX6_init 251 = .ok (.iastore, 1) := by decide +kernel
theorem dX6_init_252 : decode cX6_init 252 = .ok (.dup, 1) := by decide +kernel
theorem dX6_init_253 : decode cX6_init 253 = .ok (.bipush 23, 2) := by decide +kernel
theorem dX6_init_255 : decode cX6_init 255 = .ok (.bipush 114, 2) := by decide +kernel
theorem dX6_init_257 : decode cX6_init 257 = .ok (.iastore, 1) := by decide +kernel
theorem dX6_init_258 : decode cX6_init 258 = .ok (.dup, 1) := by decide +kernel
theorem dX6_init_259 : decode cX6_init 259 = .ok (.bipush 24, 2) := by decide +kernel
theorem dX6_init_261 : decode cX6_init 261 = .ok (.bipush 105, 2) := by decide +kernel
theorem dX6_init_263 : decode cX6_init 263 = .ok (.iastore, 1) := by decide +kernel
theorem dX6_init_264 : decode cX6_init 264 = .ok (.dup, 1) := by decide +kernel
theorem dX6_init_265 : decode cX6_init 265 = .ok (.bipush 25, 2) := by decide +kernel
theorem dX6_init_267 : decode cX6_init 267 = .ok (.bipush 99, 2) := by decide +kernel
theorem dX6_init_269 : decode cX6_init 269 = .ok (.iastore, 1) := by decide +kernel
theorem dX6_init_270 : decode cX6_init 270 = .ok (.dup, 1) := by decide +kernel
theorem dX6_init_271 : decode cX6_init 271 = .ok (.bipush 26, 2) := by decide +kernel
theorem dX6_init_273 : decode cX6_init 273 = .ok (.bipush 101, 2) := by decide +kernel
theorem dX6_init_275 : decode cX6_init 275 = .ok (.iastore, 1) := by decide +kernel
theorem dX6_init_276 : decode cX6_init 276 = .ok (.dup, 1) := by decide +kernel
theorem dX6_init_277 : decode cX6_init 277 = .ok (.bipush 27, 2) := by decide +kernel
theorem dX6_init_279 : decode cX6_init 279 = .ok (.bipush 115, 2) := by decide +kernel
theorem dX6_init_281 : decode cX6_init 281 = .ok (.iastore, 1) := by decide +kernel
theorem dX6_init_282 : decode cX6_init 282 = .ok (.dup, 1) := by decide +kernel
theorem dX6_init_283 : decode cX6_init 283 = .ok (.bipush 28, 2) := by decide +kernel
theorem dX6_init_285 : decode cX6_init 285 = .ok (.bipush 116, 2) := by decide +kernel
theorem dX6_init_287 : decode cX6_init 287 = .ok (.iastore, 1) := by decide +kernel
theorem dX6_init_288 : decode cX6_init 288 = .ok (.dup, 1) := by decide +kernel
theorem dX6_init_289 : decode cX6_init 289 = .ok (.bipush 29, 2) := by decide +kernel
theorem dX6_init_291 : decode cX6_init 291 = .ok (.bipush 101, 2) := by decide +kernel
theorem dX6_init_293 : decode cX6_init 293 = .ok (.iastore, 1) := by decide +kernel
theorem dX6_init_294 : decode cX6_init 294 = .ok (.dup, 1) := by decide +kernel
theorem dX6_init_295 : decode cX6_init 295 = .ok (.bipush 30, 2) := by decide +kernel
theorem dX6_init_297 : decode cX6_init 297 = .ok (.bipush 119, 2) := by decide +kernel
theorem dX6_init_299 : decode cX6_init 299 = .ok (.iastore, 1) := by decide +kernel
theorem dX6_init_300 : decode cX6_init 300 = .ok (.dup, 1) := by decide +kernel
theorem dX6_init_301 : decode cX6_init 301 = .ok (.bipush 31, 2) := by decide +kernel
theorem dX6_init_303 : decode cX6_init 303 = .ok (.bipush 97, 2) := by decide +kernel
theorem dX6_init_305 : decode cX6_init 305 = .ok (.iastore, 1) := by decide +kernel
theorem dX6_init_306 : decode cX6_init 306 = .ok (.dup, 1) := by decide +kernel
theorem dX6_init_307 : decode cX6_init 307 = .ok (.bipush 32, 2) := by decide +kernel
theorem dX6_init_309 : decode cX6_init 309 = .ok (.bipush 114, 2) := by decide +kernel
theorem dX6_init_311 : decode cX6_init 311 = .ok (.iastore, 1) := by decide +kernel
theorem dX6_init_312 : decode cX6_init 312 = .ok (.dup, 1) := by decide +kernel
theorem dX6_init_313 : decode cX6_init 313 = .ok (.bipush 33, 2) := by decide +kernel
theorem dX6_init_315 : decode cX6_init 315 = .ok (.bipush 100, 2) := by decide +kernel
theorem dX6_init_317 : decode cX6_init 317 = .ok (.iastore, 1) := by decide +kernel
theorem dX6_init_318 : decode cX6_init 318 = .ok (.dup, 1) := by decide +kernel
theorem dX6_init_319 : decode cX6_init 319 = .ok (.bipush 34, 2) := by decide +kernel
theorem dX6_init_321 : decode cX6_init 321 = .ok (.bipush 97, 2) := by decide +kernel
theorem dX6_init_323 : decode cX6_init 323 = .ok (.iastore, 1) := by decide +kernel
theorem dX6_init_324 : decode cX6_init 324 = .ok (.dup, 1) := by decide +kernel
theorem dX6_init_325 : decode cX6_init 325 = .ok (.bipush 35, 2) := by decide +kernel
theorem dX6_init_327 : decode cX6_init 327 = .ok (.bipush 108, 2) := by decide +kernel
theorem dX6_init_329 : decode cX6_init 329 = .ok (.iastore, 1) := by decide +kernel
theorem dX6_init_330 : decode cX6_init 330 = .ok (.dup, 1) := by decide +kernel
theorem dX6_init_331 : decode cX6_init 331 = .ok (.bipush 36, 2) := by decide +kernel
theorem dX6_init_333 : decode cX6_init 333 = .ok (.bipush 108, 2) := by decide +kernel
theorem dX6_init_335 : decode cX6_init 335 = .ok (.iastore, 1) := by decide +kernel
theorem dX6_init_336 : decode cX6_init 336 = .ok (.dup, 1) := by decide +kernel
theorem dX6_init_337 : decode cX6_init 337 = .ok (.bipush 37, 2) := by decide +kernel
theorem dX6_init_339 : decode cX6_init 339 = .ok (.bipush 112, 2) := by decide +kernel
theorem dX6_init_341 : decode cX6_init 341 = .ok (.iastore, 1) := by decide +kernel
theorem dX6_init_342 : decode cX6_init 342 = .ok (.dup, 1) := by decide +kernel
theorem dX6_init_343 : decode cX6_init 343 = .ok (.bipush 38, 2) := by decide +kernel
theorem dX6_init_345 : decode cX6_init 345 = .ok (.bipush 97, 2) := by decide +kernel
theorem dX6_init_347 : decode cX6_init 347 = .ok (.iastore, 1) := by decide +kernel
theorem dX6_init_348 : decode cX6_init 348 = .ok (.dup, 1) := by decide +kernel
theorem dX6_init_349 : decode cX6_init 349 = .ok (.bipush 39, 2) := by decide +kernel
theorem dX6_init_351 : decode cX6_init 351 = .ok (.bipush 114, 2) := by decide +kernel
theorem dX6_init_353 : decode cX6_init 353 = .ok (.iastore, 1) := by decide +kernel
theorem dX6_init_354 : decode cX6_init 354 = .ok (.dup, 1) := by decide +kernel
theorem dX6_init_355 : decode cX6_init 355 = .ok (.bipush 40, 2) := by decide +kernel
theorem dX6_init_357 : decode cX6_init 357 = .ok (.bipush 116, 2) := by decide +kernel
theorem dX6_init_359 : decode cX6_init 359 = .ok (.iastore, 1) := by decide +kernel
theorem dX6_init_360 : decode cX6_init 360 = .ok (.dup, 1) := by decide +kernel
theorem dX6_init_361 : decode cX6_init 361 = .ok (.bipush 41, 2) := by decide +kernel
theorem dX6_init_363 : decode cX6_init 363 = .ok (.bipush 108, 2) := by decide +kernel
theorem dX6_init_365 : decode cX6_init 365 = .ok (.iastore, 1) := by decide +kernel
theorem dX6_init_366 : decode cX6_init 366 = .ok (.dup, 1) := by decide +kernel
theorem dX6_init_367 : decode cX6_init 367 = .ok (.bipush 42, 2) := by decide +kernel
theorem dX6_init_369 : decode cX6_init 369 = .ok (.bipush 101, 2) := by decide +kernel
theorem dX6_init_371 : decode cX6_init 371 = .ok (.iastore, 1) := by decide +kernel
theorem dX6_init_372 : decode cX6_init 372 = .ok (.dup, 1) := by decide +kernel
theorem dX6_init_373 : decode cX6_init 373 = .ok (.bipush 43, 2) := by decide +kernel
theorem dX6_init_375 : decode cX6_init 375 = .ok (.bipush 118, 2) := by decide +kernel
theorem dX6_init_377 : decode cX6_init 377 = .ok (.iastore, 1) := by decide +kernel
theorem dX6_init_378 : decode cX6_init 378 = .ok (.dup, 1) := by decide +kernel
theorem dX6_init_379 : decode cX6_init 379 = .ok (.bipush 44, 2) := by decide +kernel
theorem dX6_init_381 : decode cX6_init 381 = .ok (.bipush 101, 2) := by decide +kernel
theorem dX6_init_383 : decode cX6_init 383 = .ok (.iastore, 1) := by decide +kernel
theorem dX6_init_384 : decode cX6_init 384 = .ok (.dup, 1) := by decide +kernel
theorem dX6_init_385 : decode cX6_init 385 = .ok (.bipush 45, 2) := by decide +kernel
theorem dX6_init_387 : decode cX6_init 387 = .ok (.bipush 108, 2) := by decide +kernel
theorem dX6_init_389 : decode cX6_init 389 = .ok (.iastore, 1) := by decide +kernel
theorem dX6_init_390 : decode cX6_init 390 = .ok (.dup, 1) := by decide +kernel
theorem dX6_init_391 : decode cX6_init 391 = .ok (.bipush 46, 2) := by decide +kernel
theorem dX6_init_393 : decode cX6_init 393 = .ok (.bipush 110, 2) := by decide +kernel
theorem dX6_init_395 : decode cX6_init 395 = .ok (.iastore, 1) := by decide +kernel
theorem dX6_init_396 : decode cX6_init 396 = .ok (.dup, 1) := by decide +kernel
theorem dX6_init_397 : decode cX6_init 397 = .ok (.bipush 47, 2) := by decide +kernel
theorem dX6_init_399 : decode cX6_init 399 = .ok (.bipush 111, 2) := by decide +kernel
theorem dX6_init_401 : decode cX6_init 401 = .ok (.iastore, 1) := by decide +kernel
theorem dX6_init_402 : decode cX6_init 402 = .ok (.dup, 1) := by decide +kernel
theorem dX6_init_403 : decode cX6_init 403 = .ok (.bipush 48, 2) := by decide +kernel
theorem dX6_init_405 : decode cX6_init 405 = .ok (.bipush 110, 2) := by decide +kernel
theorem dX6_init_407 : decode cX6_init 407 = .ok (.iastore, 1) := by decide +kernel
theorem dX6_init_408 : decode cX6_init 408 = .ok (.dup, 1) := by decide +kernel
theorem dX6_init_409 : decode cX6_init 409 = .ok (.bipush 49, 2) := by decide +kernel
theorem dX6_init_411 : decode cX6_init 411 = .ok (.bipush 101, 2) := by decide +kernel
theorem dX6_init_413 : decode cX6_init 413 = .ok (.iastore, 1) := by decide +kernel
theorem dX6_init_414 : decode cX6_init 414 = .ok (.dup, 1) := by decide +kernel
theorem dX6_init_415 : decode cX6_init 415 = .ok (.bipush 50, 2) := by decide +kernel
theorem dX6_init_417 : decode cX6_init 417 = .ok (.bipush 110, 2) := by decide +kernel
theorem dX6_init_419 : decode cX6_init 419 = .ok (.iastore, 1) := by decide +kernel
theorem dX6_init_420 : decode cX6_init 420 = .ok (.dup, 1) := by decide +kernel
theorem dX6_init_421 : decode cX6_init 421 = .ok (.bipush 51, 2) := by decide +kernel
theorem dX6_init_423 : decode cX6_init 423 = .ok (.bipush 101, 2) := by decide +kernel
theorem dX6_init_425 : decode cX6_init 425 = .ok (.iastore, 1) := by decide +kernel
theorem dX6_init_426 : decode cX6_init 426 = .ok (.dup, 1) := by decide +kernel
theorem dX6_init_427 : decode cX6_init 427 = .ok (.bipush 52, 2) := by decide +kernel
theorem dX6_init_429 : decode cX6_init 429 = .ok (.bipush 101, 2) := by decide +kernel
theorem dX6_init_431 : decode cX6_init 431 = .ok (.iastore, 1) := by decide +kernel
theorem dX6_init_432 : decode cX6_init 432 = .ok (.dup, 1) := by decide +kernel
theorem dX6_init_433 : decode cX6_init 433 = .ok (.bipush 53, 2) := by decide +kernel
theorem dX6_init_435 : decode cX6_init 435 = .ok (.bipush 100, 2) := by decide +kernel
theorem dX6_init_437 : decode cX6_init 437 = .ok (.iastore, 1) := by decide +kernel
theorem dX6_init_438 : decode cX6_init 438 = .ok (.putfield 28, 3) := by decide +kernel
theorem dX6_init_441 : decode cX6_init 441 = .ok (.aload_n 0, 1) := by decide +kernel
theorem dX6_init_442 : decode cX6_init 442 = .ok (.sipush 3936, 3) := by decide +kernel
theorem dX6_init_445 : decode cX6_init 445 = .ok (.newarray .long, 2) := by decide +kernel
theorem dX6_init_447 : decode cX6_init 447 = .ok (.putfield 31, 3) := by decide +kernel
theorem dX6_init_450 : decode cX6_init 450 = .ok (.aload_n 0, 1) := by decide +kernel
theorem dX6_init_451 : decode cX6_init 451 = .ok (.bipush 12, 2) := by decide +kernel
theorem dX6_init_453 : decode cX6_init 453 = .ok (.newarray .int, 2) := by decide +kernel
theorem dX6_init_455 : decode cX6_init 455 = .ok (.putfield 35, 3) := by decide +kernel
theorem dX6_init_458 : decode cX6_init 458 = .ok (.aload_n 0, 1) := by decide +kernel
theorem dX6_init_459 : decode cX6_init 459 = .ok (.iconst 2, 1) := by decide +kernel
theorem dX6_init_460 : decode cX6_init 460 = .ok (.newarray .boolean, 2) := by decide +kernel
theorem dX6_init_462 : decode cX6_init 462 = .ok (.putfield 38, 3) := by decide +kernel
theorem dX6_init_465 : decode cX6_init 465 = .ok (.aload_n 0, 1) := by decide +kernel
theorem dX6_init_466 : decode cX6_init 466 = .ok (.iconst 4, 1) := by decide +kernel
theorem dX6_init_467 : decode cX6_init 467 = .ok (.newarray .int, 2) := by decide +kernel
theorem dX6_init_469 : decode cX6_init 469 = .ok (.dup, 1) := by decide +kernel
theorem dX6_init_470 : decode cX6_init 470 = .ok (.iconst 0, 1) := by decide +kernel
theorem dX6_init_471 : decode cX6_init 471 = .ok (.bipush (-4), 2) := by decide +kernel
theorem dX6_init_473 : decode cX6_init 473 = .ok (.iastore, 1) := by decide +kernel
theorem dX6_init_474 : decode cX6_init 474 = .ok (.dup, 1) := by decide +kernel
theorem dX6_init_475 : decode cX6_init 475 = .ok (.iconst 1, 1) := by decide +kernel
theorem dX6_init_476 : decode cX6_init 476 = .ok (.bipush (-4), 2) := by decide +kernel
theorem dX6_init_478 : decode cX6_init 478 = .ok (.iastore, 1) := by decide +kernel
theorem dX6_init_479 : decode cX6_init 479 = .ok (.dup, 1) := by decide +kernel
theorem dX6_init_480 : decode cX6_init 480 = .ok (.iconst 2, 1) := by decide +kernel
theorem dX6_init_481 : decode cX6_init 481 = .ok (.bipush (-4), 2) := by decide +kernel
theorem dX6_init_483 : decode cX6_init 483 = .ok (.iastore, 1) := by decide +kernel
theorem dX6_init_484 : decode cX6_init 484 = .ok (.dup, 1) := by decide +kernel
theorem dX6_init_485 : decode cX6_init 485 = .ok (.iconst 3, 1) := by decide +kernel
theorem dX6_init_486 : decode cX6_init 486 = .ok (.bipush (-4), 2) := by decide +kernel
theorem dX6_init_488 : decode cX6_init 488 = .ok (.iastore, 1) := by decide +kernel
theorem dX6_init_489 : decode cX6_init 489 = .ok (.putfield 42, 3) := by decide +kernel
theorem dX6_init_492 : decode cX6_init 492 = .ok (.aload_n 0, 1) := by decide +kernel
theorem dX6_init_493 : decode cX6_init 493 = .ok (.iconst 4, 1) := by decide +kernel
theorem dX6_init_494 : decode cX6_init 494 = .ok (.newarray .int, 2) := by decide +kernel
theorem dX6_init_496 : decode cX6_init 496 = .ok (.putfield 45, 3) := by decide +kernel
theorem dX6_init_499 : decode cX6_init 499 = .ok (.aload_n 0, 1) := by decide +kernel
theorem dX6_init_500 : decode cX6_init 500 = .ok (.sipush 160, 3) := by decide +kernel
theorem dX6_init_503 : decode cX6_init 503 = .ok (.newarray .int, 2) := by decide +kernel
theorem dX6_init_505 : decode cX6_init 505 = .ok (.putfield 48, 3) := by decide +kernel
theorem dX6_init_508 : decode cX6_init 508 = .ok (.return_, 1) := by decide +kernel
theorem dX6_in_0 : decode cX6_in 0 = .ok (.lload_n 0, 1) := by decide +kernel
theorem dX6_in_1 : decode cX6_in 1 = .ok (.lload_n 2, 1) := by decide +kernel
theorem dX6_in_2 : decode cX6_in 2 = .ok (.lcmp, 1) := by decide +kernel
theorem dX6_in_3 : decode cX6_in 3 = .ok (.ifCond .lt 14, 3) := by decide +kernel
theorem dX6_in_6 : decode cX6_in 6 = .ok (.lload_n 0, 1) := by decide +kernel
theorem dX6_in_7 : decode cX6_in 7 = .ok (.lload 4, 2) := by decide +kernel
theorem dX6_in_9 : decode cX6_in 9 = .ok (.lcmp, 1) := by decide +kernel
theorem dX6_in_10 : decode cX6_in 10 = .ok (.ifCond .gt 7, 3) := by decide +kernel
theorem dX6_in_13 : decode cX6_in 13 = .ok (.iconst 1, 1) := by decide +kernel
theorem dX6_in_14 : decode cX6_in 14 = .ok (.goto 4, 3) := by decide +kernel
theorem dX6_in_17 : decode cX6_in 17 = .ok (.iconst 0, 1) := by decide +kernel
theorem dX6_in_18 : decode cX6_in 18 = .ok (.ireturn, 1) := by decide +kernel
theorem dX6_feed_0 : decode cX6_feed 0 = .ok (.iload_n 1, 1) := by decide +kernel
theorem dX6_feed_1 : decode cX6_feed 1 = .ok (.i2l, 1) := by decide +kernel
theorem dX6_feed_2 : decode cX6_feed 2 = .ok (.lconst 0, 1) := by decide +kernel
theorem dX6_feed_3 : decode cX6_feed 3 = .ok (.ldc2_w 51, 3) := by decide +kernel
theorem dX6_feed_6 : decode cX6_feed 6 = .ok (.invokestatic 53, 3) := by decide +kernel
theorem dX6_feed_9 : decode cX6_feed 9 = .ok (.ifCond .ne 5, 3) := by decide +kernel
theorem dX6_feed_12 : decode cX6_feed 12 = .ok (.iconst (-1), 1) := by decide +kernel
theorem dX6_feed_13 : decode cX6_feed 13 = .ok (.ireturn, 1) := by decide +kernel
theorem dX6_feed_14 : decode cX6_feed 14 = .ok (.aload_n 0, 1) := by decide +kernel
theorem dX6_feed_15 : decode cX6_feed 15 = .ok (.getfield 57, 3) := by decide +kernel
theorem dX6_feed_18 : decode cX6_feed 18 = .ok (.sipush 160, 3) := by decide +kernel
theorem dX6_feed_21 : decode cX6_feed 21 = .ok (.if_icmp .ne 6, 3) := by decide +kernel
theorem dX6_feed_24 : decode cX6_feed 24 = .ok (.bipush (-3), 2) := by decide +kernel
theorem dX6_feed_26 : decode cX6_feed 26 = .ok (.ireturn, 1) := by decide +kernel
theorem dX6_feed_27 : decode cX6_feed 27 = .ok (.aload_n 0, 1) := by decide +kernel
theorem dX6_feed_28 : decode cX6_feed 28 = .ok (.getfield 22, 3) := by decide +kernel
theorem dX6_feed_31 : decode cX6_feed 31 = .ok (.aload_n 0, 1) := by decide +kernel
theorem dX6_feed_32 : decode cX6_feed 32 = .ok (.getfield 57, 3) := by decide +kernel
theorem dX6_feed_35 : decode cX6_feed 35 = .ok (.iload_n 1, 1) := by decide +kernel
theorem dX6_feed_36 : decode cX6_feed 36 = .ok (.iastore, 1) := by decide +kernel
theorem dX6_feed_37 : decode cX6_feed 37 = .ok (.aload_n 0, 1) := by decide +kernel
theorem dX6_feed_38 : decode cX6_feed 38 = .ok (.dup, 1) := by decide +kernel
theorem dX6_feed_39 : decode cX6_feed 39 = .ok (.getfield 57, 3) := by decide +kernel
theorem dX6_feed_42 : decode cX6_feed 42 = .ok (.iconst 1, 1) := by decide +kernel
theorem dX6_feed_43 : decode cX6_feed 43 = .ok (.iadd, 1) := by decide +kernel
theorem dX6_feed_44 : decode cX6_feed 44 = .ok (.putfield 57, 3) := by decide +kernel
theorem dX6_feed_47 : decode cX6_feed 47 = .ok (.aload_n 0, 1) := by decide +kernel
theorem dX6_feed_48 : decode cX6_feed 48 = .ok (.getfield 57, 3) := by decide +kernel
theorem dX6_feed_51 : decode cX6_feed 51 = .ok (.ireturn, 1) := by decide +kernel
theorem dX6_end_0 : decode cX6_end 0 = .ok (.iload_n 1, 1) := by decide +kernel
theorem dX6_end_1 : decode cX6_end 1 = .ok (.i2l, 1) := by decide +kernel
theorem dX6_end_2 : decode cX6_end 2 = .ok (.lconst 0, 1) := by decide +kernel
theorem dX6_end_3 : decode cX6_end 3 = .ok (.aload_n 0, 1) := by decide +kernel
theorem dX6_end_4 : decode cX6_end 4 = .ok (.getfield 57, 3) := by decide +kernel
theorem dX6_end_7 : decode cX6_end 7 = .ok (.i2l, 1) := by decide +kernel
theorem dX6_end_8 : decode cX6_end 8 = .ok (.invokestatic 53, 3) := by decide +kernel
theorem dX6_end_11 : decode cX6_end 11 = .ok (.ifCond .ne 5, 3) := by decide +kernel
theorem dX6_end_14 : decode cX6_end 14 = .ok (.iconst (-1), 1) := by decide +kernel
theorem dX6_end_15 : decode cX6_end 15 = .ok (.ireturn, 1) := by decide +kernel
theorem dX6_end_16 : decode cX6_end 16 = .ok (.aload_n 0, 1) := by decide +kernel
theorem dX6_end_17 : decode cX6_end 17 = .ok (.getfield 57, 3) := by decide +kernel
theorem dX6_end_20 : decode cX6_end 20 = .ok (.istore_n 2, 1) := by decide +kernel
theorem dX6_end_21 : decode cX6_end 21 = .ok (.aload_n 0, 1) := by decide +kernel
theorem dX6_end_22 : decode cX6_end 22 = .ok (.iload_n 1, 1) := by decide +kernel
theorem dX6_end_23 : decode cX6_end 23 = .ok (.putfield 57, 3) := by decide +kernel
theorem dX6_end_26 : decode cX6_end 26 = .ok (.iload_n 2, 1) := by decide +kernel
theorem dX6_end_27 : decode cX6_end 27 = .ok (.ireturn, 1) := by decide +kernel
theorem dX6_byteAt_0 : decode cX6_byteAt 0 = .ok (.iload_n 1, 1) := by decide +kernel
theorem dX6_byteAt_1 : decode cX6_byteAt 1 = .ok (.aload_n 0, 1) := by decide +kernel
theorem dX6_byteAt_2 : decode cX6_byteAt 2 = .ok (.getfield 57, 3) := by decide +kernel
theorem dX6_byteAt_5 : decode cX6_byteAt 5 = .ok (.if_icmp .ge 12, 3) := by decide +kernel
theorem dX6_byteAt_8 : decode cX6_byteAt 8 = .ok (.aload_n 0, 1) := by decide +kernel
theorem dX6_byteAt_9 : decode cX6_byteAt 9 = .ok (.getfield 22, 3) := by decide +kernel
theorem dX6_byteAt_12 : decode cX6_byteAt 12 = .ok (.iload_n 1, 1) := by decide +kernel
theorem dX6_byteAt_13 : decode cX6_byteAt 13 = .ok (.iaload, 1) := by decide +kernel
theorem dX6_byteAt_14 : decode cX6_byteAt 14 = .ok (.goto 5, 3) := by decide +kernel
theorem dX6_byteAt_17 : decode cX6_byteAt 17 = .ok (.bipush (-4), 2) := by decide +kernel
theorem dX6_byteAt_19 : decode cX6_byteAt 19 = .ok (.ireturn, 1) := by decide +kernel
theorem dX6_fails_0 : decode cX6_fails 0 = .ok (.aload_n 0, 1) := by decide +kernel
theorem dX6_fails_1 : decode cX6_fails 1 = .ok (.getfield 61, 3) := by decide +kernel
theorem dX6_fails_4 : decode cX6_fails 4 = .ok (.ifCond .ne 16, 3) := by decide +kernel
theorem dX6_fails_7 : decode cX6_fails 7 = .ok (.aload_n 0, 1) := by decide +kernel
theorem dX6_fails_8 : decode cX6_fails 8 = .ok (.iload_n 1, 1) := by decide +kernel
theorem dX6_fails_9 : decode cX6_fails 9 = .ok (.putfield 61, 3) := by decide +kernel
theorem dX6_fails_12 : decode cX6_fails 12 = .ok (.aload_n 0, 1) := by decide +kernel
theorem dX6_fails_13 : decode cX6_fails 13 = .ok (.aload_n 0, 1) := by decide +kernel
theorem dX6_fails_14 : decode cX6_fails 14 = .ok (.getfield 64, 3) := by decide +kernel
theorem dX6_fails_17 : decode cX6_fails 17 = .ok (.putfield 67, 3) := by decide +kernel
theorem dX6_fails_20 : decode cX6_fails 20 = .ok (.return_, 1) := by decide +kernel
theorem dX6_wordHere_0 : decode cX6_wordHere 0 = .ok (.iconst 0, 1) := by decide +kernel
theorem dX6_wordHere_1 : decode cX6_wordHere 1 = .ok (.istore_n 1, 1) := by decide +kernel
theorem dX6_wordHere_2 : decode cX6_wordHere 2 = .ok (.iload_n 1, 1) := by decide +kernel
theorem dX6_wordHere_3 : decode cX6_wordHere 3 = .ok (.bipush 11, 2) := by decide +kernel
theorem dX6_wordHere_5 : decode cX6_wordHere 5 = .ok (.if_icmp .ge 113, 3) := by decide +kernel
theorem dX6_wordHere_8 : decode cX6_wordHere 8 = .ok (.aload_n 0, 1) := by decide +kernel
theorem dX6_wordHere_9 : decode cX6_wordHere 9 = .ok (.getfield 70, 3) := by decide +kernel
theorem dX6_wordHere_12 : decode cX6_wordHere 12 = .ok (.iconst 1, 1) := by decide +kernel
theorem dX6_wordHere_13 : decode cX6_wordHere 13 = .ok (.if_icmp .ne 105, 3) := by decide +kernel
theorem dX6_wordHere_16 : decode cX6_wordHere 16 = .ok (.aload_n 0, 1) := by decide +kernel
theorem dX6_wordHere_17 : decode cX6_wordHere 17 = .ok (.getfield 73, 3) := by decide +kernel
theorem dX6_wordHere_20 : decode cX6_wordHere 20 = .ok (.aload_n 0, 1) := by decide +kernel
theorem dX6_wordHere_21 : decode cX6_wordHere 21 = .ok (.getfield 64, 3) := by decide +kernel
theorem dX6_wordHere_24 : decode cX6_wordHere 24 = .ok (.isub, 1) := by decide +kernel
theorem dX6_wordHere_25 : decode cX6_wordHere 25 = .ok (.aload_n 0, 1) := by decide +kernel
theorem dX6_wordHere_26 : decode cX6_wordHere 26 = .ok (.getfield 25, 3) := by decide +kernel
theorem dX6_wordHere_29 : decode cX6_wordHere 29 = .ok (.iload_n 1, 1) := by decide +kernel
theorem dX6_wordHere_30 : decode cX6_wordHere 30 = .ok (.iconst 1, 1) := by decide +kernel
theorem dX6_wordHere_31 : decode cX6_wordHere 31 = .ok (.iadd, 1) := by decide +kernel
theorem dX6_wordHere_32 : decode cX6_wordHere 32 = .ok (.iaload, 1) := by decide +kernel
theorem dX6_wordHere_33 : decode cX6_wordHere 33 = .ok (.aload_n 0, 1) := by decide +kernel
theorem dX6_wordHere_34 : decode cX6_wordHere 34 = .ok (.getfield 25, 3) := by decide +kernel
theorem dX6_wordHere_37 : decode cX6_wordHere 37 = .ok (.iload_n 1, 1) := by decide +kernel
theorem dX6_wordHere_38 : decode cX6_wordHere 38 = .ok (.iaload, 1) := by decide +kernel
theorem dX6_wordHere_39 : decode cX6_wordHere 39 = .ok (.isub, 1) := by decide +kernel
theorem dX6_wordHere_40 : decode cX6_wordHere 40 = .ok (.if_icmp .ne 7, 3) := by decide +kernel
theorem dX6_wordHere_43 : decode cX6_wordHere 43 = .ok (.iconst 1, 1) := by decide +kernel
theorem dX6_wordHere_44 : decode cX6_wordHere 44 = .ok (.goto 4, 3) := by decide +kernel
theorem dX6_wordHere_47 : decode cX6_wordHere 47 = .ok (.iconst 0, 1) := by decide +kernel
theorem dX6_wordHere_48 : decode cX6_wordHere 48 = .ok (.istore_n 2, 1) := by decide +kernel
theorem dX6_wordHere_49 : decode cX6_wordHere 49 = .ok (.iconst 0, 1) := by decide +kernel
theorem dX6_wordHere_50 : decode cX6_wordHere 50 = .ok (.istore_n 3, 1) := by decide +kernel
theorem dX6_wordHere_51 : decode cX6_wordHere 51 = .ok (.iload_n 2, 1) := by decide +kernel
theorem dX6_wordHere_52 : decode cX6_wordHere 52 = .ok (.ifCond .eq 54, 3) := by decide +kernel
theorem dX6_wordHere_55 : decode cX6_wordHere 55 = .ok (.iload_n 3, 1) := by decide +kernel
theorem dX6_wordHere_56 : decode cX6_wordHere 56 = .ok (.aload_n 0, 1) := by decide +kernel
theorem dX6_wordHere_57 : decode cX6_wordHere 57 = .ok (.getfield 73, 3) := by decide +kernel
theorem dX6_wordHere_60 : decode cX6_wordHere 60 = .ok (.aload_n 0, 1) := by decide +kernel
theorem dX6_wordHere_61 : decode cX6_wordHere 61 = .ok (.getfield 64, 3) := by decide +kernel
theorem dX6_wordHere_64 : decode cX6_wordHere 64 = .ok (.isub, 1) := by decide +kernel
theorem dX6_wordHere_65 : decode cX6_wordHere 65 = .ok (.if_icmp .ge 41, 3) := by decide +kernel
theorem dX6_wordHere_68 : decode cX6_wordHere 68 = .ok (.aload_n 0, 1) := by decide +kernel
theorem dX6_wordHere_69 : decode cX6_wordHere 69 = .ok (.aload_n 0, 1) := by decide +kernel
theorem dX6_wordHere_70 : decode cX6_wordHere 70 = .ok (.getfield 64, 3) := by decide +kernel
theorem dX6_wordHere_73 : decode cX6_wordHere 73 = .ok (.iload_n 3, 1) := by decide +kernel
theorem dX6_wordHere_74 : decode cX6_wordHere 74 = .ok (.iadd, 1) := by decide +kernel
theorem dX6_wordHere_75 : decode cX6_wordHere 75 = .ok (.invokevirtual 76, 3) := by decide +kernel
theorem dX6_wordHere_78 : decode cX6_wordHere 78 = .ok (.aload_n 0, 1) := by decide +kernel
theorem dX6_wordHere_79 : decode cX6_wordHere 79 = .ok (.getfield 28, 3) := by decide +kernel
theorem dX6_wordHere_82 : decode cX6_wordHere 82 = .ok (.aload_n 0, 1) := by decide +kernel
theorem dX6_wordHere_83 : decode cX6_wordHere 83 = .ok (.getfield 25, 3) := by decide +kernel
theorem dX6_wordHere_86 : decode cX6_wordHere 86 = .ok (.iload_n 1, 1) := by decide +kernel
theorem dX6_wordHere_87 : decode cX6_wordHere 87 = .ok (.iaload, 1) := by decide +kernel
theorem dX6_wordHere_88 : decode cX6_wordHere 88 = .ok (.iload_n 3, 1) := by decide +kernel
theorem dX6_wordHere_89 : decode cX6_wordHere 89 = .ok (.iadd, 1) := by decide +kernel
theorem dX6_wordHere_90 : decode cX6_wordHere 90 = .ok (.iaload, 1) := by decide +kernel
theorem dX6_wordHere_91 : decode cX6_wordHere 91 = .ok (.if_icmp .ne 7, 3) := by decide +kernel
theorem dX6_wordHere_94 : decode cX6_wordHere 94 = .ok (.iconst 1, 1) := by decide +kernel
theorem dX6_wordHere_95 : decode cX6_wordHere 95 = .ok (.goto 4, 3) := by decide +kernel
theorem dX6_wordHere_98 : decode cX6_wordHere 98 = .ok (.iconst 0, 1) := by decide +kernel
theorem dX6_wordHere_99 : decode cX6_wordHere 99 = .ok (.istore_n 2, 1) := by decide +kernel
theorem dX6_wordHere_100 : decode cX6_wordHere 100 = .ok (.iinc 3 1, 3) := by decide +kernel
theorem dX6_wordHere_103 : decode cX6_wordHere 103 = .ok (.goto (-52), 3) := by decide +kernel
theorem dX6_wordHere_106 : decode cX6_wordHere 106 = .ok (.iload_n 2, 1) := by decide +kernel
theorem dX6_wordHere_107 : decode cX6_wordHere 107 = .ok (.ifCond .eq 5, 3) := by decide +kernel
theorem dX6_wordHere_110 : decode cX6_wordHere 110 = .ok (.iload_n 1, 1) := by decide +kernel
theorem dX6_wordHere_111 : decode cX6_wordHere 111 = .ok (.ireturn, 1) := by decide +kernel
theorem dX6_wordHere_112 : decode cX6_wordHere 112 = .ok (.iinc 1 1, 3) := by decide +kernel
theorem dX6_wordHere_115 : decode cX6_wordHere 115 = .ok (.goto (-113), 3) := by decide +kernel
theorem dX6_wordHere_118 : decode cX6_wordHere 118 = .ok (.bipush (-4), 2) := by decide +kernel
theorem dX6_wordHere_120 : decode cX6_wordHere 120 = .ok (.ireturn, 1) := by decide +kernel
theorem dX6_step_0 : decode cX6_step 0 = .ok (.aload_n 0, 1) := by decide +kernel
theorem dX6_step_1 : decode cX6_step 1 = .ok (.getfield 61, 3) := by decide +kernel
theorem dX6_step_4 : decode cX6_step 4 = .ok (.ifCond .le 4, 3) := by decide +kernel
theorem dX6_step_7 : decode cX6_step 7 = .ok (.return_, 1) := by decide +kernel
theorem dX6_step_8 : decode cX6_step 8 = .ok (.aload_n 0, 1) := by decide +kernel
theorem dX6_step_9 : decode cX6_step 9 = .ok (.aload_n 0, 1) := by decide +kernel
theorem dX6_step_10 : decode cX6_step 10 = .ok (.getfield 73, 3) := by decide +kernel
theorem dX6_step_13 : decode cX6_step 13 = .ok (.invokevirtual 76, 3) := by decide +kernel
theorem dX6_step_16 : decode cX6_step 16 = .ok (.bipush 32, 2) := by decide +kernel
theorem dX6_step_18 : decode cX6_step 18 = .ok (.if_icmp .ne 16, 3) := by decide +kernel
theorem dX6_step_21 : decode cX6_step 21 = .ok (.aload_n 0, 1) := by decide +kernel
theorem dX6_step_22 : decode cX6_step 22 = .ok (.dup, 1) := by decide +kernel
theorem dX6_step_23 : decode cX6_step 23 = .ok (.getfield 73, 3) := by decide +kernel
theorem dX6_step_26 : decode cX6_step 26 = .ok (.iconst 1, 1) := by decide +kernel
theorem dX6_step_27 : decode cX6_step 27 = .ok (.iadd, 1) := by decide +kernel
theorem dX6_step_28 : decode cX6_step 28 = .ok (.putfield 73, 3) := by decide +kernel
theorem dX6_step_31 : decode cX6_step 31 = .ok (.goto (-23), 3) := by decide +kernel
theorem dX6_step_34 : decode cX6_step 34 = .ok (.aload_n 0, 1) := by decide +kernel
theorem dX6_step_35 : decode cX6_step 35 = .ok (.aload_n 0, 1) := by decide +kernel
theorem dX6_step_36 : decode cX6_step 36 = .ok (.getfield 73, 3) := by decide +kernel
theorem dX6_step_39 : decode cX6_step 39 = .ok (.putfield 64, 3) := by decide +kernel
theorem dX6_step_42 : decode cX6_step 42 = .ok (.aload_n 0, 1) := by decide +kernel
theorem dX6_step_43 : decode cX6_step 43 = .ok (.aload_n 0, 1) := by decide +kernel
theorem dX6_step_44 : decode cX6_step 44 = .ok (.getfield 73, 3) := by decide +kernel
theorem dX6_step_47 : decode cX6_step 47 = .ok (.invokevirtual 76, 3) := by decide +kernel
theorem dX6_step_50 : decode cX6_step 50 = .ok (.istore_n 1, 1) := by decide +kernel
theorem dX6_step_51 : decode cX6_step 51 = .ok (.aload_n 0, 1) := by decide +kernel
theorem dX6_step_52 : decode cX6_step 52 = .ok (.iconst 0, 1) := by decide +kernel
theorem dX6_step_53 : decode cX6_step 53 = .ok (.putfield 80, 3) := by decide +kernel
theorem dX6_step_56 : decode cX6_step 56 = .ok (.iload_n 1, 1) := by decide +kernel
theorem dX6_step_57 : decode cX6_step 57 = .ok (.bipush (-4), 2) := by decide +kernel
theorem dX6_step_59 : decode cX6_step 59 = .ok (.if_icmp .ne 11, 3) := by decide +kernel
theorem dX6_step_62 : decode cX6_step 62 = .ok (.aload_n 0, 1) := by decide +kernel
theorem dX6_step_63 : decode cX6_step 63 = .ok (.iconst 0, 1) := by decide +kernel
theorem dX6_step_64 : decode cX6_step 64 = .ok (.putfield 70, 3) := by decide +kernel
theorem dX6_step_67 : decode cX6_step 67 = .ok (.goto 202, 3) := by decide +kernel
theorem dX6_step_70 : decode cX6_step 70 = .ok (.iload_n 1, 1) := by decide +kernel
theorem dX6_step_71 : decode cX6_step 71 = .ok (.i2l, 1) := by decide +kernel
theorem dX6_step_72 : decode cX6_step 72 = .ok (.ldc2_w 83, 3) := by decide +kernel
theorem dX6_step_75 : decode cX6_step 75 = .ok (.ldc2_w 85, 3) := by decide +kernel
theorem dX6_step_78 : decode cX6_step 78 = .ok (.invokestatic 53, 3) := by decide +kernel
theorem dX6_step_81 : decode cX6_step 81 = .ok (.ifCond .eq 45, 3) := by decide +kernel
theorem dX6_step_84 : decode cX6_step 84 = .ok (.aload_n 0, 1) := by decide +kernel
theorem dX6_step_85 : decode cX6_step 85 = .ok (.aload_n 0, 1) := by decide +kernel
theorem dX6_step_86 : decode cX6_step 86 = .ok (.getfield 73, 3) := by decide +kernel
theorem dX6_step_89 : decode cX6_step 89 = .ok (.invokevirtual 76, 3) := by decide +kernel
theorem dX6_step_92 : decode cX6_step 92 = .ok (.i2l, 1) := by decide +kernel
theorem dX6_step_93 : decode cX6_step 93 = .ok (.ldc2_w 83, 3) := by decide +kernel
theorem dX6_step_96 : decode cX6_step 96 = .ok (.ldc2_w 85, 3) := by decide +kernel
theorem dX6_step_99 : decode cX6_step 99 = .ok (.invokestatic 53, 3) := by decide +kernel
theorem dX6_step_102 : decode cX6_step 102 = .ok (.ifCond .eq 16, 3) := by decide +kernel
theorem dX6_step_105 : decode cX6_step 105 = .ok (.aload_n 0, 1) := by decide +kernel
theorem dX6_step_106 : decode cX6_step 106 = .ok (.dup, 1) := by decide +kernel
theorem dX6_step_107 : decode cX6_step 107 = .ok (.getfield 73, 3) := by decide +kernel
theorem dX6_step_110 : decode cX6_step 110 = .ok (.iconst 1, 1) := by decide +kernel
theorem dX6_step_111 : decode cX6_step 111 = .ok (.iadd, 1) := by decide +kernel
theorem dX6_step_112 : decode cX6_step 112 = .ok (.putfield 73, 3) := by decide +kernel
theorem dX6_step_115 : decode cX6_step 115 = .ok (.goto (-31), 3) := by decide +kernel
theorem dX6_step_118 : decode cX6_step 118 = .ok (.aload_n 0, 1) := by decide +kernel
theorem dX6_step_119 : decode cX6_step 119 = .ok (.iconst 1, 1) := by decide +kernel
theorem dX6_step_120 : decode cX6_step 120 = .ok (.putfield 70, 3) := by decide +kernel
theorem dX6_step_123 : decode cX6_step 123 = .ok (.goto 146, 3) := by decide +kernel
theorem dX6_step_126 : decode cX6_step 126 = .ok (.iload_n 1, 1) := by decide +kernel
theorem dX6_step_127 : decode cX6_step 127 = .ok (.i2l, 1) := by decide +kernel
theorem dX6_step_128 : decode cX6_step 128 = .ok (.ldc2_w 87, 3) := by decide +kernel
theorem dX6_step_131 : decode cX6_step 131 = .ok (.ldc2_w 89, 3) := by decide +kernel
theorem dX6_step_134 : decode cX6_step 134 = .ok (.invokestatic 53, 3) := by decide +kernel
theorem dX6_step_137 : decode cX6_step 137 = .ok (.ifCond .eq 106, 3) := by decide +kernel
theorem dX6_step_140 : decode cX6_step 140 = .ok (.aload_n 0, 1) := by decide +kernel
theorem dX6_step_141 : decode cX6_step 141 = .ok (.aload_n 0, 1) := by decide +kernel
theorem dX6_step_142 : decode cX6_step 142 = .ok (.getfield 73, 3) := by decide +kernel
theorem dX6_step_145 : decode cX6_step 145 = .ok (.invokevirtual 76, 3) := by decide +kernel
theorem dX6_step_148 : decode cX6_step 148 = .ok (.i2l, 1) := by decide +kernel
theorem dX6_step_149 : decode cX6_step 149 = .ok (.ldc2_w 87, 3) := by decide +kernel
theorem dX6_step_152 : decode cX6_step 152 = .ok (.ldc2_w 89, 3) := by decide +kernel
theorem dX6_step_155 : decode cX6_step 155 = .ok (.invokestatic 53, 3) := by decide +kernel
theorem dX6_step_158 : decode cX6_step 158 = .ok (.ifCond .eq 59, 3) := by decide +kernel
theorem dX6_step_161 : decode cX6_step 161 = .ok (.aload_n 0, 1) := by decide +kernel
theorem dX6_step_162 : decode cX6_step 162 = .ok (.aload_n 0, 1) := by decide +kernel
theorem dX6_step_163 : decode cX6_step 163 = .ok (.getfield 73, 3) := by decide +kernel
theorem dX6_step_166 : decode cX6_step 166 = .ok (.aload_n 0, 1) := by decide +kernel
theorem dX6_step_167 : decode cX6_step 167 = .ok (.getfield 64, 3) := by decide +kernel
theorem dX6_step_170 : decode cX6_step 170 = .ok (.isub, 1) := by decide +kernel
theorem dX6_step_171 : decode cX6_step 171 = .ok (.iconst 2, 1) := by decide +kernel
theorem dX6_step_172 : decode cX6_step 172 = .ok (.if_icmp .ge 25, 3) := by decide +kernel
theorem dX6_step_175 : decode cX6_step 175 = .ok (.bipush 10, 2) := by decide +kernel
theorem dX6_step_177 : decode cX6_step 177 = .ok (.aload_n 0, 1) := by decide +kernel
theorem dX6_step_178 : decode cX6_step 178 = .ok (.getfield 80, 3) := by decide +kernel
theorem dX6_step_181 : decode cX6_step 181 = .ok (.imul, 1) := by decide +kernel
theorem dX6_step_182 : decode cX6_step 182 = .ok (.aload_n 0, 1) := by decide +kernel
theorem dX6_step_183 : decode cX6_step 183 = .ok (.aload_n 0, 1) := by decide +kernel
theorem dX6_step_184 : decode cX6_step 184 = .ok (.getfield 73, 3) := by decide +kernel
theorem dX6_step_187 : decode cX6_step 187 = .ok (.invokevirtual 76, 3) := by decide +kernel
theorem dX6_step_190 : decode cX6_step 190 = .ok (.iadd, 1) := by decide +kernel
theorem dX6_step_191 : decode cX6_step 191 = .ok (.bipush 48, 2) := by decide +kernel
theorem dX6_step_193 : decode cX6_step 193 = .ok (.isub, 1) := by decide +kernel
theorem dX6_step_194 : decode cX6_step 194 = .ok (.goto 7, 3) := by decide +kernel
theorem dX6_step_197 : decode cX6_step 197 = .ok (.aload_n 0, 1) := by decide +kernel
theorem dX6_step_198 : decode cX6_step 198 = .ok (.getfield 80, 3) := by decide +kernel
theorem dX6_step_201 : decode cX6_step 201 = .ok (.putfield 80, 3) := by decide +kernel
theorem dX6_step_204 : decode cX6_step 204 = .ok (.aload_n 0, 1) := by decide +kernel
theorem dX6_step_205 : decode cX6_step 205 = .ok (.dup, 1) := by decide +kernel
theorem dX6_step_206 : decode cX6_step 206 = .ok (.getfield 73, 3) := by decide +kernel
theorem dX6_step_209 : decode cX6_step 209 = .ok (.iconst 1, 1) := by decide +kernel
theorem dX6_step_210 : decode cX6_step 210 = .ok (.iadd, 1) := by decide +kernel
theorem dX6_step_211 : decode cX6_step 211 = .ok (.putfield 73, 3) := by decide +kernel
theorem dX6_step_214 : decode cX6_step 214 = .ok (.goto (-74), 3) := by decide +kernel
theorem dX6_step_217 : decode cX6_step 217 = .ok (.aload_n 0, 1) := by decide +kernel
theorem dX6_step_218 : decode cX6_step 218 = .ok (.iconst 2, 1) := by decide +kernel
theorem dX6_step_219 : decode cX6_step 219 = .ok (.putfield 70, 3) := by decide +kernel
theorem dX6_step_222 : decode cX6_step 222 = .ok (.aload_n 0, 1) := by decide +kernel
theorem dX6_step_223 : decode cX6_step 223 = .ok (.getfield 73, 3) := by decide +kernel
theorem dX6_step_226 : decode cX6_step 226 = .ok (.aload_n 0, 1) := by decide +kernel
theorem dX6_step_227 : decode cX6_step 227 = .ok (.getfield 64, 3) := by decide +kernel
theorem dX6_step_230 : decode cX6_step 230 = .ok (.isub, 1) := by decide +kernel
theorem dX6_step_231 : decode cX6_step 231 = .ok (.iconst 2, 1) := by decide +kernel
theorem dX6_step_232 : decode cX6_step 232 = .ok (.if_icmp .le 37, 3) := by decide +kernel
theorem dX6_step_235 : decode cX6_step 235 = .ok (.aload_n 0, 1) := by decide +kernel
theorem dX6_step_236 : decode cX6_step 236 = .ok (.iconst 1, 1) := by decide +kernel
theorem dX6_step_237 : decode cX6_step 237 = .ok (.invokevirtual 91, 3) := by decide +kernel
theorem dX6_step_240 : decode cX6_step 240 = .ok (.goto 29, 3) := by decide +kernel
theorem dX6_step_243 : decode cX6_step 243 = .ok (.aload_n 0, 1) := by decide +kernel
theorem dX6_step_244 : decode cX6_step 244 = .ok (.iconst 3, 1) := by decide +kernel
theorem dX6_step_245 : decode cX6_step 245 = .ok (.putfield 70, 3) := by decide +kernel
theorem dX6_step_248 : decode cX6_step 248 = .ok (.aload_n 0, 1) := by decide +kernel
theorem dX6_step_249 : decode cX6_step 249 = .ok (.dup, 1) := by decide +kernel
theorem dX6_step_250 : decode cX6_step 250 = .ok (.getfield 73, 3) := by decide +kernel
theorem dX6_step_253 : decode cX6_step 253 = .ok (.iconst 1, 1) := by decide +kernel
theorem dX6_step_254 : decode cX6_step 254 = .ok (.iadd, 1) := by decide +kernel
theorem dX6_step_255 : decode cX6_step 255 = .ok (.putfield 73, 3) := by decide +kernel
theorem dX6_step_258 : decode cX6_step 258 = .ok (.iload_n 1, 1) := by decide +kernel
theorem dX6_step_259 : decode cX6_step 259 = .ok (.bipush 59, 2) := by decide +kernel
theorem dX6_step_261 : decode cX6_step 261 = .ok (.if_icmp .eq 8, 3) := by decide +kernel
theorem dX6_step_264 : decode cX6_step 264 = .ok (.aload_n 0, 1) := by decide +kernel
theorem dX6_step_265 : decode cX6_step 265 = .ok (.iconst 1, 1) := by decide +kernel
theorem dX6_step_266 : decode cX6_step 266 = .ok (.invokevirtual 91, 3) := by decide +kernel
theorem dX6_step_269 : decode cX6_step 269 = .ok (.return_, 1) := by decide +kernel
theorem dX6_number_0 : decode cX6_number 0 = .ok (.aload_n 0, 1) := by decide +kernel
theorem dX6_number_1 : decode cX6_number 1 = .ok (.getfield 61, 3) := by decide +kernel
theorem dX6_number_4 : decode cX6_number 4 = .ok (.ifCond .ne 16, 3) := by decide +kernel
theorem dX6_number_7 : decode cX6_number 7 = .ok (.aload_n 0, 1) := by decide +kernel
theorem dX6_number_8 : decode cX6_number 8 = .ok (.getfield 70, 3) := by decide +kernel
theorem dX6_number_11 : decode cX6_number 11 = .ok (.iconst 2, 1) := by decide +kernel
theorem dX6_number_12 : decode cX6_number 12 = .ok (.if_icmp .eq 8, 3) := by decide +kernel
theorem dX6_number_15 : decode cX6_number 15 = .ok (.aload_n 0, 1) := by decide +kernel
theorem dX6_number_16 : decode cX6_number 16 = .ok (.iconst 2, 1) := by decide +kernel
theorem dX6_number_17 : decode cX6_number 17 = .ok (.invokevirtual 91, 3) := by decide +kernel
theorem dX6_number_20 : decode cX6_number 20 = .ok (.aload_n 0, 1) := by decide +kernel
theorem dX6_number_21 : decode cX6_number 21 = .ok (.getfield 61, 3) := by decide +kernel
theorem dX6_number_24 : decode cX6_number 24 = .ok (.ifCond .ne 23, 3) := by decide +kernel
theorem dX6_number_27 : decode cX6_number 27 = .ok (.aload_n 0, 1) := by decide +kernel
theorem dX6_number_28 : decode cX6_number 28 = .ok (.getfield 80, 3) := by decide +kernel
theorem dX6_number_31 : decode cX6_number 31 = .ok (.i2l, 1) := by decide +kernel
theorem dX6_number_32 : decode cX6_number 32 = .ok (.iload_n 1, 1) := by decide +kernel
theorem dX6_number_33 : decode cX6_number 33 = .ok (.i2l, 1) := by decide +kernel
theorem dX6_number_34 : decode cX6_number 34 = .ok (.iload_n 2, 1) := by decide +kernel
theorem dX6_number_35 : decode cX6_number 35 = .ok (.i2l, 1) := by decide +kernel
theorem dX6_number_36 : decode cX6_number 36 = .ok (.invokestatic 53, 3) := by decide +kernel
theorem dX6_number_39 : decode cX6_number 39 = .ok (.ifCond .ne 8, 3) := by decide +kernel
theorem dX6_number_42 : decode cX6_number 42 = .ok (.aload_n 0, 1) := by decide +kernel
theorem dX6_number_43 : decode cX6_number 43 = .ok (.iconst 3, 1) := by decide +kernel
theorem dX6_number_44 : decode cX6_number 44 = .ok (.invokevirtual 91, 3) := by decide +kernel
theorem dX6_number_47 : decode cX6_number 47 = .ok (.aload_n 0, 1) := by decide +kernel
theorem dX6_number_48 : decode cX6_number 48 = .ok (.getfield 61, 3) := by decide +kernel
theorem dX6_number_51 : decode cX6_number 51 = .ok (.ifCond .ne 10, 3) := by decide +kernel
theorem dX6_number_54 : decode cX6_number 54 = .ok (.aload_n 0, 1) := by decide +kernel
theorem dX6_number_55 : decode cX6_number 55 = .ok (.getfield 80, 3) := by decide +kernel
theorem dX6_number_58 : decode cX6_number 58 = .ok (.goto 4, 3) := by decide +kernel
theorem dX6_number_61 : decode cX6_number 61 = .ok (.iload_n 1, 1) := by decide +kernel
theorem dX6_number_62 : decode cX6_number 62 = .ok (.istore_n 3, 1) := by decide +kernel
theorem dX6_number_63 : decode cX6_number 63 = .ok (.aload_n 0, 1) := by decide +kernel
theorem dX6_number_64 : decode cX6_number 64 = .ok (.invokevirtual 95, 3) := by decide +kernel
theorem dX6_number_67 : decode cX6_number 67 = .ok (.iload_n 3, 1) := by decide +kernel
theorem dX6_number_68 : decode cX6_number 68 = .ok (.ireturn, 1) := by decide +kernel
theorem dX6_readDream_0 : decode cX6_readDream 0 = .ok (.aload_n 0, 1) := by decide +kernel
theorem dX6_readDream_1 : decode cX6_readDream 1 = .ok (.getfield 70, 3) := by decide +kernel
theorem dX6_readDream_4 : decode cX6_readDream 4 = .ok (.iconst 1, 1) := by decide +kernel
theorem dX6_readDream_5 : decode cX6_readDream 5 = .ok (.if_icmp .eq 9, 3) := by decide +kernel
theorem dX6_readDream_8 : decode cX6_readDream 8 = .ok (.aload_n 0, 1) := by decide +kernel
theorem dX6_readDream_9 : decode cX6_readDream 9 = .ok (.iconst 2, 1) := by decide +kernel
theorem dX6_readDream_10 : decode cX6_readDream 10 = .ok (.invokevirtual 91, 3) := by decide +kernel
theorem dX6_readDream_13 : decode cX6_readDream 13 = .ok (.return_, 1) := by decide +kernel
theorem dX6_readDream_14 : decode cX6_readDream 14 = .ok (.aload_n 0, 1) := by decide +kernel
theorem dX6_readDream_15 : decode cX6_readDream 15 = .ok (.getfield 73, 3) := by decide +kernel
theorem dX6_readDream_18 : decode cX6_readDream 18 = .ok (.aload_n 0, 1) := by decide +kernel
theorem dX6_readDream_19 : decode cX6_readDream 19 = .ok (.getfield 64, 3) := by decide +kernel
theorem dX6_readDream_22 : decode cX6_readDream 22 = .ok (.isub, 1) := by decide +kernel
theorem dX6_readDream_23 : decode cX6_readDream 23 = .ok (.bipush 8, 2) := by decide +kernel
theorem dX6_readDream_25 : decode cX6_readDream 25 = .ok (.if_icmp .gt 7, 3) := by decide +kernel
theorem dX6_readDream_28 : decode cX6_readDream 28 = .ok (.iconst 1, 1) := by decide +kernel
theorem dX6_readDream_29 : decode cX6_readDream 29 = .ok (.goto 4, 3) := by decide +kernel
theorem dX6_readDream_32 : decode cX6_readDream 32 = .ok (.iconst 0, 1) := by decide +kernel
theorem dX6_readDream_33 : decode cX6_readDream 33 = .ok (.istore_n 1, 1) := by decide +kernel
theorem dX6_readDream_34 : decode cX6_readDream 34 = .ok (.iconst 0, 1) := by decide +kernel
theorem dX6_readDream_35 : decode cX6_readDream 35 = .ok (.istore_n 2, 1) := by decide +kernel
theorem dX6_readDream_36 : decode cX6_readDream 36 = .ok (.aload_n 0, 1) := by decide +kernel
theorem dX6_readDream_37 : decode cX6_readDream 37 = .ok (.getfield 64, 3) := by decide +kernel
theorem dX6_readDream_40 : decode cX6_readDream 40 = .ok (.istore_n 3, 1) := by decide +kernel
theorem dX6_readDream_41 : decode cX6_readDream 41 = .ok (.iload_n 3, 1) := by decide +kernel
theorem dX6_readDream_42 : decode cX6_readDream 42 = .ok (.aload_n 0, 1) := by decide +kernel
theorem dX6_readDream_43 : decode cX6_readDream 43 = .ok (.getfield 73, 3) := by decide +kernel
theorem dX6_readDream_46 : decode cX6_readDream 46 = .ok (.if_icmp .ge 64, 3) := by decide +kernel
theorem dX6_readDream_49 : decode cX6_readDream 49 = .ok (.iload_n 1, 1) := by decide +kernel
theorem dX6_readDream_50 : decode cX6_readDream 50 = .ok (.ifCond .eq 60, 3) := by decide +kernel
theorem dX6_readDream_53 : decode cX6_readDream 53 = .ok (.aload_n 0, 1) := by decide +kernel
theorem dX6_readDream_54 : decode cX6_readDream 54 = .ok (.iload_n 3, 1) := by decide +kernel
theorem dX6_readDream_55 : decode cX6_readDream 55 = .ok (.invokevirtual 76, 3) := by decide +kernel
theorem dX6_readDream_58 : decode cX6_readDream 58 = .ok (.bipush 102, 2) := by decide +kernel
theorem dX6_readDream_60 : decode cX6_readDream 60 = .ok (.if_icmp .eq 13, 3) := by decide +kernel
theorem dX6_readDream_63 : decode cX6_readDream 63 = .ok (.aload_n 0, 1) := by decide +kernel
theorem dX6_readDream_64 : decode cX6_readDream 64 = .ok (.iload_n 3, 1) := by decide +kernel
theorem dX6_readDream_65 : decode cX6_readDream 65 = .ok (.invokevirtual 76, 3) := by decide +kernel
theorem dX6_readDream_68 : decode cX6_readDream 68 = .ok (.bipush 108, 2) := by decide +kernel
theorem dX6_readDream_70 : decode cX6_readDream 70 = .ok (.if_icmp .ne 7, 3) := by decide +kernel
theorem dX6_readDream_73 : decode cX6_readDream 73 = .ok (.iconst 1, 1) := by decide +kernel
theorem dX6_readDream_74 : decode cX6_readDream 74 = .ok (.goto 4, 3) := by decide +kernel
theorem dX6_readDream_77 : decode cX6_readDream 77 = .ok (.iconst 0, 1) := by decide +kernel
theorem dX6_readDream_78 : decode cX6_readDream 78 = .ok (.istore_n 1, 1) := by decide +kernel
theorem dX6_readDream_79 : decode cX6_readDream 79 = .ok (.iload_n 2, 1) := by decide +kernel
theorem dX6_readDream_80 : decode cX6_readDream 80 = .ok (.aload_n 0, 1) := by decide +kernel
theorem dX6_readDream_81 : decode cX6_readDream 81 = .ok (.iload_n 3, 1) := by decide +kernel
theorem dX6_readDream_82 : decode cX6_readDream 82 = .ok (.invokevirtual 76, 3) := by decide +kernel
theorem dX6_readDream_85 : decode cX6_readDream 85 = .ok (.bipush 102, 2) := by decide +kernel
theorem dX6_readDream_87 : decode cX6_readDream 87 = .ok (.if_icmp .ne 14, 3) := by decide +kernel
theorem dX6_readDream_90 : decode cX6_readDream 90 = .ok (.iconst 1, 1) := by decide +kernel
theorem dX6_readDream_91 : decode cX6_readDream 91 = .ok (.iload_n 3, 1) := by decide +kernel
theorem dX6_readDream_92 : decode cX6_readDream 92 = .ok (.aload_n 0, 1) := by decide +kernel
theorem dX6_readDream_93 : decode cX6_readDream 93 = .ok (.getfield 64, 3) := by decide +kernel
theorem dX6_readDream_96 : decode cX6_readDream 96 = .ok (.isub, 1) := by decide +kernel
theorem dX6_readDream_97 : decode cX6_readDream 97 = .ok (.ishl, 1) := by decide +kernel
theorem dX6_readDream_98 : decode cX6_readDream 98 = .ok (.goto 4, 3) := by decide +kernel
theorem dX6_readDream_101 : decode cX6_readDream 101 = .ok (.iconst 0, 1) := by decide +kernel
theorem dX6_readDream_102 : decode cX6_readDream 102 = .ok (.ior, 1) := by decide +kernel
theorem dX6_readDream_103 : decode cX6_readDream 103 = .ok (.istore_n 2, 1) := by decide +kernel
theorem dX6_readDream_104 : decode cX6_readDream 104 = .ok (.iinc 3 1, 3) := by decide +kernel
theorem dX6_readDream_107 : decode cX6_readDream 107 = .ok (.goto (-66), 3) := by decide +kernel
theorem dX6_readDream_110 : decode cX6_readDream 110 = .ok (.iload_n 1, 1) := by decide +kernel
theorem dX6_readDream_111 : decode cX6_readDream 111 = .ok (.ifCond .ne 9, 3) := by decide +kernel
theorem dX6_readDream_114 : decode cX6_readDream 114 = .ok (.aload_n 0, 1) := by decide +kernel
theorem dX6_readDream_115 : decode cX6_readDream 115 = .ok (.iconst 3, 1) := by decide +kernel
theorem dX6_readDream_116 : decode cX6_readDream 116 = .ok (.invokevirtual 91, 3) := by decide +kernel
theorem dX6_readDream_119 : decode cX6_readDream 119 = .ok (.return_, 1) := by decide +kernel
theorem dX6_readDream_120 : decode cX6_readDream 120 = .ok (.aload_n 0, 1) := by decide +kernel
theorem dX6_readDream_121 : decode cX6_readDream 121 = .ok (.getfield 19, 3) := by decide +kernel
theorem dX6_readDream_124 : decode cX6_readDream 124 = .ok (.aload_n 0, 1) := by decide +kernel
theorem dX6_readDream_125 : decode cX6_readDream 125 = .ok (.getfield 98, 3) := by decide +kernel
theorem dX6_readDream_128 : decode cX6_readDream 128 = .ok (.iload_n 2, 1) := by decide +kernel
theorem dX6_readDream_129 : decode cX6_readDream 129 = .ok (.iastore, 1) := by decide +kernel
theorem dX6_readDream_130 : decode cX6_readDream 130 = .ok (.aload_n 0, 1) := by decide +kernel
theorem dX6_readDream_131 : decode cX6_readDream 131 = .ok (.invokevirtual 95, 3) := by decide +kernel
theorem dX6_readDream_134 : decode cX6_readDream 134 = .ok (.aload_n 0, 1) := by decide +kernel
theorem dX6_readDream_135 : decode cX6_readDream 135 = .ok (.getfield 16, 3) := by decide +kernel
theorem dX6_readDream_138 : decode cX6_readDream 138 = .ok (.bipush 8, 2) := by decide +kernel
theorem dX6_readDream_140 : decode cX6_readDream 140 = .ok (.aload_n 0, 1) := by decide +kernel
theorem dX6_readDream_141 : decode cX6_readDream 141 = .ok (.getfield 98, 3) := by decide +kernel
theorem dX6_readDream_144 : decode cX6_readDream 144 = .ok (.iadd, 1) := by decide +kernel
theorem dX6_readDream_145 : decode cX6_readDream 145 = .ok (.aload_n 0, 1) := by decide +kernel
theorem dX6_readDream_146 : decode cX6_readDream 146 = .ok (.iconst 1, 1) := by decide +kernel
theorem dX6_readDream_147 : decode cX6_readDream 147 = .ok (.bipush 9, 2) := by decide +kernel
theorem dX6_readDream_149 : decode cX6_readDream 149 = .ok (.invokevirtual 101, 3) := by decide +kernel
theorem dX6_readDream_152 : decode cX6_readDream 152 = .ok (.iastore, 1) := by decide +kernel
theorem dX6_readDream_153 : decode cX6_readDream 153 = .ok (.aload_n 0, 1) := by decide +kernel
theorem dX6_readDream_154 : decode cX6_readDream 154 = .ok (.dup, 1) := by decide +kernel
theorem dX6_readDream_155 : decode cX6_readDream 155 = .ok (.getfield 98, 3) := by decide +kernel
theorem dX6_readDream_158 : decode cX6_readDream 158 = .ok (.iconst 1, 1) := by decide +kernel
theorem dX6_readDream_159 : decode cX6_readDream 159 = .ok (.iadd, 1) := by decide +kernel
theorem dX6_readDream_160 : decode cX6_readDream 160 = .ok (.putfield 98, 3) := by decide +kernel
theorem dX6_readDream_163 : decode cX6_readDream 163 = .ok (.return_, 1) := by decide +kernel
theorem dX6_readOnce_0 : decode cX6_readOnce 0 = .ok (.iload_n 1, 1) := by decide +kernel
theorem dX6_readOnce_1 : decode cX6_readOnce 1 = .ok (.iconst 2, 1) := by decide +kernel
theorem dX6_readOnce_2 : decode cX6_readOnce 2 = .ok (.if_icmp .ne 34, 3) := by decide +kernel
theorem dX6_readOnce_5 : decode cX6_readOnce 5 = .ok (.aload_n 0, 1) := by decide +kernel
theorem dX6_readOnce_6 : decode cX6_readOnce 6 = .ok (.getfield 16, 3) := by decide +kernel
theorem dX6_readOnce_9 : decode cX6_readOnce 9 = .ok (.bipush 12, 2) := by decide +kernel
theorem dX6_readOnce_11 : decode cX6_readOnce 11 = .ok (.aload_n 0, 1) := by decide +kernel
theorem dX6_readOnce_12 : decode cX6_readOnce 12 = .ok (.iconst 0, 1) := by decide +kernel
theorem dX6_readOnce_13 : decode cX6_readOnce 13 = .ok (.bipush 40, 2) := by decide +kernel
theorem dX6_readOnce_15 : decode cX6_readOnce 15 = .ok (.invokevirtual 101, 3) := by decide +kernel
theorem dX6_readOnce_18 : decode cX6_readOnce 18 = .ok (.iastore, 1) := by decide +kernel
theorem dX6_readOnce_19 : decode cX6_readOnce 19 = .ok (.aload_n 0, 1) := by decide +kernel
theorem dX6_readOnce_20 : decode cX6_readOnce 20 = .ok (.getfield 16, 3) := by decide +kernel
theorem dX6_readOnce_23 : decode cX6_readOnce 23 = .ok (.bipush 13, 2) := by decide +kernel
theorem dX6_readOnce_25 : decode cX6_readOnce 25 = .ok (.aload_n 0, 1) := by decide +kernel
theorem dX6_readOnce_26 : decode cX6_readOnce 26 = .ok (.iconst 0, 1) := by decide +kernel
theorem dX6_readOnce_27 : decode cX6_readOnce 27 = .ok (.bipush 20, 2) := by decide +kernel
theorem dX6_readOnce_29 : decode cX6_readOnce 29 = .ok (.invokevirtual 101, 3) := by decide +kernel
theorem dX6_readOnce_32 : decode cX6_readOnce 32 = .ok (.iastore, 1) := by decide +kernel
theorem dX6_readOnce_33 : decode cX6_readOnce 33 = .ok (.goto 175, 3) := by decide +kernel
theorem dX6_readOnce_36 : decode cX6_readOnce 36 = .ok (.iload_n 1, 1) := by decide +kernel
theorem dX6_readOnce_37 : decode cX6_readOnce 37 = .ok (.iconst 3, 1) := by decide +kernel
theorem dX6_readOnce_38 : decode cX6_readOnce 38 = .ok (.if_icmp .ne 80, 3) := by decide +kernel
theorem dX6_readOnce_41 : decode cX6_readOnce 41 = .ok (.aload_n 0, 1) := by decide +kernel
theorem dX6_readOnce_42 : decode cX6_readOnce 42 = .ok (.iconst 0, 1) := by decide +kernel
theorem dX6_readOnce_43 : decode cX6_readOnce 43 = .ok (.bipush 40, 2) := by decide +kernel
theorem dX6_readOnce_45 : decode cX6_readOnce 45 = .ok (.invokevirtual 101, 3) := by decide +kernel
theorem dX6_readOnce_48 : decode cX6_readOnce 48 = .ok (.istore_n 2, 1) := by decide +kernel
theorem dX6_readOnce_49 : decode cX6_readOnce 49 = .ok (.aload_n 0, 1) := by decide +kernel
theorem dX6_readOnce_50 : decode cX6_readOnce 50 = .ok (.getfield 16, 3) := by decide +kernel
theorem dX6_readOnce_53 : decode cX6_readOnce 53 = .ok (.bipush 14, 2) := by decide +kernel
theorem dX6_readOnce_55 : decode cX6_readOnce 55 = .ok (.bipush 40, 2) := by decide +kernel
theorem dX6_readOnce_57 : decode cX6_readOnce 57 = .ok (.iload_n 2, 1) := by decide +kernel
theorem dX6_readOnce_58 : decode cX6_readOnce 58 = .ok (.isub, 1) := by decide +kernel
theorem dX6_readOnce_59 : decode cX6_readOnce 59 = .ok (.iastore, 1) := by decide +kernel
theorem dX6_readOnce_60 : decode cX6_readOnce 60 = .ok (.aload_n 0, 1) := by decide +kernel
theorem dX6_readOnce_61 : decode cX6_readOnce 61 = .ok (.getfield 61, 3) := by decide +kernel
theorem dX6_readOnce_64 : decode cX6_readOnce 64 = .ok (.ifCond .ne 24, 3) := by decide +kernel
theorem dX6_readOnce_67 : decode cX6_readOnce 67 = .ok (.aload_n 0, 1) := by decide +kernel
theorem dX6_readOnce_68 : decode cX6_readOnce 68 = .ok (.getfield 70, 3) := by decide +kernel
theorem dX6_readOnce_71 : decode cX6_readOnce 71 = .ok (.iconst 2, 1) := by decide +kernel
theorem dX6_readOnce_72 : decode cX6_readOnce 72 = .ok (.if_icmp .ne 16, 3) := by decide +kernel
theorem dX6_readOnce_75 : decode cX6_readOnce 75 = .ok (.aload_n 0, 1) := by decide +kernel
theorem dX6_readOnce_76 : decode cX6_readOnce 76 = .ok (.getfield 80, 3) := by decide +kernel
theorem dX6_readOnce_79 : decode cX6_readOnce 79 = .ok (.iconst 1, 1) := by decide +kernel
theorem dX6_readOnce_80 : decode cX6_readOnce 80 = .ok (.if_icmp .ne 8, 3) := by decide +kernel
theorem dX6_readOnce_83 : decode cX6_readOnce 83 = .ok (.aload_n 0, 1) := by decide +kernel
theorem dX6_readOnce_84 : decode cX6_readOnce 84 = .ok (.iconst 3, 1) := by decide +kernel
theorem dX6_readOnce_85 : decode cX6_readOnce 85 = .ok (.invokevirtual 91, 3) := by decide +kernel
theorem dX6_readOnce_88 : decode cX6_readOnce 88 = .ok (.aload_n 0, 1) := by decide +kernel
theorem dX6_readOnce_89 : decode cX6_readOnce 89 = .ok (.getfield 16, 3) := by decide +kernel
theorem dX6_readOnce_92 : decode cX6_readOnce 92 = .ok (.bipush 15, 2) := by decide +kernel
theorem dX6_readOnce_94 : decode cX6_readOnce 94 = .ok (.aload_n 0, 1) := by decide +kernel
theorem dX6_readOnce_95 : decode cX6_readOnce 95 = .ok (.iconst 0, 1) := by decide +kernel
theorem dX6_readOnce_96 : decode cX6_readOnce 96 = .ok (.bipush 9, 2) := by decide +kernel
theorem dX6_readOnce_98 : decode cX6_readOnce 98 = .ok (.invokevirtual 101, 3) := by decide +kernel
theorem dX6_readOnce_101 : decode cX6_readOnce 101 = .ok (.iastore, 1) := by decide +kernel
theorem dX6_readOnce_102 : decode cX6_readOnce 102 = .ok (.aload_n 0, 1) := by decide +kernel
theorem dX6_readOnce_103 : decode cX6_readOnce 103 = .ok (.getfield 16, 3) := by decide +kernel
theorem dX6_readOnce_106 : decode cX6_readOnce 106 = .ok (.bipush 16, 2) := by decide +kernel
theorem dX6_readOnce_108 : decode cX6_readOnce 108 = .ok (.aload_n 0, 1) := by decide +kernel
theorem dX6_readOnce_109 : decode cX6_readOnce 109 = .ok (.iconst 0, 1) := by decide +kernel
theorem dX6_readOnce_110 : decode cX6_readOnce 110 = .ok (.iload_n 2, 1) := by decide +kernel
theorem dX6_readOnce_111 : decode cX6_readOnce 111 = .ok (.invokevirtual 101, 3) := by decide +kernel
theorem dX6_readOnce_114 : decode cX6_readOnce 114 = .ok (.iastore, 1) := by decide +kernel
theorem dX6_readOnce_115 : decode cX6_readOnce 115 = .ok (.goto 93, 3) := by decide +kernel
theorem dX6_readOnce_118 : decode cX6_readOnce 118 = .ok (.iload_n 1, 1) := by decide +kernel
theorem dX6_readOnce_119 : decode cX6_readOnce 119 = .ok (.iconst 4, 1) := by decide +kernel
theorem dX6_readOnce_120 : decode cX6_readOnce 120 = .ok (.if_icmp .ne 38, 3) := by decide +kernel
theorem dX6_readOnce_123 : decode cX6_readOnce 123 = .ok (.aload_n 0, 1) := by decide +kernel
theorem dX6_readOnce_124 : decode cX6_readOnce 124 = .ok (.getfield 16, 3) := by decide +kernel
theorem dX6_readOnce_127 : decode cX6_readOnce 127 = .ok (.bipush 18, 2) := by decide +kernel
theorem dX6_readOnce_129 : decode cX6_readOnce 129 = .ok (.aload_n 0, 1) := by decide +kernel
theorem dX6_readOnce_130 : decode cX6_readOnce 130 = .ok (.iconst 0, 1) := by decide +kernel
theorem dX6_readOnce_131 : decode cX6_readOnce 131 = .ok (.bipush 9, 2) := by decide +kernel
theorem dX6_readOnce_133 : decode cX6_readOnce 133 = .ok (.invokevirtual 101, 3) := by decide +kernel
theorem dX6_readOnce_136 : decode cX6_readOnce 136 = .ok (.iconst 1, 1) := by decide +kernel
theorem dX6_readOnce_137 : decode cX6_readOnce 137 = .ok (.isub, 1) := by decide +kernel
theorem dX6_readOnce_138 : decode cX6_readOnce 138 = .ok (.iastore, 1) := by decide +kernel
theorem dX6_readOnce_139 : decode cX6_readOnce 139 = .ok (.aload_n 0, 1) := by decide +kernel
theorem dX6_readOnce_140 : decode cX6_readOnce 140 = .ok (.getfield 16, 3) := by decide +kernel
theorem dX6_readOnce_143 : decode cX6_readOnce 143 = .ok (.bipush 17, 2) := by decide +kernel
theorem dX6_readOnce_145 : decode cX6_readOnce 145 = .ok (.aload_n 0, 1) := by decide +kernel
theorem dX6_readOnce_146 : decode cX6_readOnce 146 = .ok (.iconst 0, 1) := by decide +kernel
theorem dX6_readOnce_147 : decode cX6_readOnce 147 = .ok (.bipush 9, 2) := by decide +kernel
theorem dX6_readOnce_149 : decode cX6_readOnce 149 = .ok (.invokevirtual 101, 3) := by decide +kernel
theorem dX6_readOnce_152 : decode cX6_readOnce 152 = .ok (.iconst 1, 1) := by decide +kernel
theorem dX6_readOnce_153 : decode cX6_readOnce 153 = .ok (.isub, 1) := by decide +kernel
theorem dX6_readOnce_154 : decode cX6_readOnce 154 = .ok (.iastore, 1) := by decide +kernel
theorem dX6_readOnce_155 : decode cX6_readOnce 155 = .ok (.goto 53, 3) := by decide +kernel
theorem dX6_readOnce_158 : decode cX6_readOnce 158 = .ok (.aload_n 0, 1) := by decide +kernel
theorem dX6_readOnce_159 : decode cX6_readOnce 159 = .ok (.invokevirtual 105, 3) := by decide +kernel
theorem dX6_readOnce_162 : decode cX6_readOnce 162 = .ok (.bipush 6, 2) := by decide +kernel
theorem dX6_readOnce_164 : decode cX6_readOnce 164 = .ok (.isub, 1) := by decide +kernel
theorem dX6_readOnce_165 : decode cX6_readOnce 165 = .ok (.istore_n 2, 1) := by decide +kernel
theorem dX6_readOnce_166 : decode cX6_readOnce 166 = .ok (.aload_n 0, 1) := by decide +kernel
theorem dX6_readOnce_167 : decode cX6_readOnce 167 = .ok (.getfield 61, 3) := by decide +kernel
theorem dX6_readOnce_170 : decode cX6_readOnce 170 = .ok (.ifCond .ne 12, 3) := by decide +kernel
theorem dX6_readOnce_173 : decode cX6_readOnce 173 = .ok (.iload_n 2, 1) := by decide +kernel
theorem dX6_readOnce_174 : decode cX6_readOnce 174 = .ok (.ifCond .ge 8, 3) := by decide +kernel
theorem dX6_readOnce_177 : decode cX6_readOnce 177 = .ok (.aload_n 0, 1) := by decide +kernel
theorem dX6_readOnce_178 : decode cX6_readOnce 178 = .ok (.iconst 2, 1) := by decide +kernel
theorem dX6_readOnce_179 : decode cX6_readOnce 179 = .ok (.invokevirtual 91, 3) := by decide +kernel
theorem dX6_readOnce_182 : decode cX6_readOnce 182 = .ok (.aload_n 0, 1) := by decide +kernel
theorem dX6_readOnce_183 : decode cX6_readOnce 183 = .ok (.getfield 16, 3) := by decide +kernel
theorem dX6_readOnce_186 : decode cX6_readOnce 186 = .ok (.bipush 19, 2) := by decide +kernel
theorem dX6_readOnce_188 : decode cX6_readOnce 188 = .ok (.iload_n 2, 1) := by decide +kernel
theorem dX6_readOnce_189 : decode cX6_readOnce 189 = .ok (.iastore, 1) := by decide +kernel
theorem dX6_readOnce_190 : decode cX6_readOnce 190 = .ok (.aload_n 0, 1) := by decide +kernel
theorem dX6_readOnce_191 : decode cX6_readOnce 191 = .ok (.invokevirtual 95, 3) := by decide +kernel
theorem dX6_readOnce_194 : decode cX6_readOnce 194 = .ok (.aload_n 0, 1) := by decide +kernel
theorem dX6_readOnce_195 : decode cX6_readOnce 195 = .ok (.getfield 16, 3) := by decide +kernel
theorem dX6_readOnce_198 : decode cX6_readOnce 198 = .ok (.bipush 20, 2) := by decide +kernel
theorem dX6_readOnce_200 : decode cX6_readOnce 200 = .ok (.aload_n 0, 1) := by decide +kernel
theorem dX6_readOnce_201 : decode cX6_readOnce 201 = .ok (.iconst 0, 1) := by decide +kernel
theorem dX6_readOnce_202 : decode cX6_readOnce 202 = .ok (.bipush 9, 2) := by decide +kernel
theorem dX6_readOnce_204 : decode cX6_readOnce 204 = .ok (.invokevirtual 101, 3) := by decide +kernel
theorem dX6_readOnce_207 : decode cX6_readOnce 207 = .ok (.iastore, 1) := by decide +kernel
theorem dX6_readOnce_208 : decode cX6_readOnce 208 = .ok (.return_, 1) := by decide +kernel
theorem dX6_readLine_0 : decode cX6_readLine 0 = .ok (.aload_n 0, 1) := by decide +kernel
theorem dX6_readLine_1 : decode cX6_readLine 1 = .ok (.invokevirtual 105, 3) := by decide +kernel
theorem dX6_readLine_4 : decode cX6_readLine 4 = .ok (.istore_n 1, 1) := by decide +kernel
theorem dX6_readLine_5 : decode cX6_readLine 5 = .ok (.iload_n 1, 1) := by decide +kernel
theorem dX6_readLine_6 : decode cX6_readLine 6 = .ok (.i2l, 1) := by decide +kernel
theorem dX6_readLine_7 : decode cX6_readLine 7 = .ok (.lconst 0, 1) := by decide +kernel
theorem dX6_readLine_8 : decode cX6_readLine 8 = .ok (.ldc2_w 109, 3) := by decide +kernel
theorem dX6_readLine_11 : decode cX6_readLine 11 = .ok (.invokestatic 53, 3) := by decide +kernel
theorem dX6_readLine_14 : decode cX6_readLine 14 = .ok (.ifCond .ne 9, 3) := by decide +kernel
theorem dX6_readLine_17 : decode cX6_readLine 17 = .ok (.aload_n 0, 1) := by decide +kernel
theorem dX6_readLine_18 : decode cX6_readLine 18 = .ok (.iconst 2, 1) := by decide +kernel
theorem dX6_readLine_19 : decode cX6_readLine 19 = .ok (.invokevirtual 91, 3) := by decide +kernel
theorem dX6_readLine_22 : decode cX6_readLine 22 = .ok (.return_, 1) := by decide +kernel
theorem dX6_readLine_23 : decode cX6_readLine 23 = .ok (.iload_n 1, 1) := by decide +kernel
theorem dX6_readLine_24 : decode cX6_readLine 24 = .ok (.ifCond .ne 11, 3) := by decide +kernel
theorem dX6_readLine_27 : decode cX6_readLine 27 = .ok (.aload_n 0, 1) := by decide +kernel
theorem dX6_readLine_28 : decode cX6_readLine 28 = .ok (.getfield 111, 3) := by decide +kernel
theorem dX6_readLine_31 : decode cX6_readLine 31 = .ok (.iconst 4, 1) := by decide +kernel
theorem dX6_readLine_32 : decode cX6_readLine 32 = .ok (.if_icmp .eq 16, 3) := by decide +kernel
theorem dX6_readLine_35 : decode cX6_readLine 35 = .ok (.iload_n 1, 1) := by decide +kernel
theorem dX6_readLine_36 : decode cX6_readLine 36 = .ok (.iconst 1, 1) := by decide +kernel
theorem dX6_readLine_37 : decode cX6_readLine 37 = .ok (.if_icmp .ne 16, 3) := by decide +kernel
theorem dX6_readLine_40 : decode cX6_readLine 40 = .ok (.aload_n 0, 1) := by decide +kernel
theorem dX6_readLine_41 : decode cX6_readLine 41 = .ok (.getfield 98, 3) := by decide +kernel
theorem dX6_readLine_44 : decode cX6_readLine 44 = .ok (.iconst 4, 1) := by decide +kernel
theorem dX6_readLine_45 : decode cX6_readLine 45 = .ok (.if_icmp .ne 8, 3) := by decide +kernel
theorem dX6_readLine_48 : decode cX6_readLine 48 = .ok (.aload_n 0, 1) := by decide +kernel
theorem dX6_readLine_49 : decode cX6_readLine 49 = .ok (.iconst 5, 1) := by decide +kernel
theorem dX6_readLine_50 : decode cX6_readLine 50 = .ok (.invokevirtual 91, 3) := by decide +kernel
theorem dX6_readLine_53 : decode cX6_readLine 53 = .ok (.iload_n 1, 1) := by decide +kernel
theorem dX6_readLine_54 : decode cX6_readLine 54 = .ok (.iconst 1, 1) := by decide +kernel
theorem dX6_readLine_55 : decode cX6_readLine 55 = .ok (.if_icmp .le 20, 3) := by decide +kernel
theorem dX6_readLine_58 : decode cX6_readLine 58 = .ok (.aload_n 0, 1) := by decide +kernel
theorem dX6_readLine_59 : decode cX6_readLine 59 = .ok (.getfield 114, 3) := by decide +kernel
theorem dX6_readLine_62 : decode cX6_readLine 62 = .ok (.iload_n 1, 1) := by decide +kernel
theorem dX6_readLine_63 : decode cX6_readLine 63 = .ok (.ishr, 1) := by decide +kernel
theorem dX6_readLine_64 : decode cX6_readLine 64 = .ok (.iconst 1, 1) := by decide +kernel
theorem dX6_readLine_65 : decode cX6_readLine 65 = .ok (.iand, 1) := by decide +kernel
theorem dX6_readLine_66 : decode cX6_readLine 66 = .ok (.iconst 1, 1) := by decide +kernel
theorem dX6_readLine_67 : decode cX6_readLine 67 = .ok (.if_icmp .ne 8, 3) := by decide +kernel
theorem dX6_readLine_70 : decode cX6_readLine 70 = .ok (.aload_n 0, 1) := by decide +kernel
theorem dX6_readLine_71 : decode cX6_readLine 71 = .ok (.iconst 4, 1) := by decide +kernel
theorem dX6_readLine_72 : decode cX6_readLine 72 = .ok (.invokevirtual 91, 3) := by decide +kernel
theorem dX6_readLine_75 : decode cX6_readLine 75 = .ok (.aload_n 0, 1) := by decide +kernel
theorem dX6_readLine_76 : decode cX6_readLine 76 = .ok (.dup, 1) := by decide +kernel
theorem dX6_readLine_77 : decode cX6_readLine 77 = .ok (.getfield 114, 3) := by decide +kernel
theorem dX6_readLine_80 : decode cX6_readLine 80 = .ok (.iconst 1, 1) := by decide +kernel
theorem dX6_readLine_81 : decode cX6_readLine 81 = .ok (.iload_n 1, 1) := by decide +kernel
theorem dX6_readLine_82 : decode cX6_readLine 82 = .ok (.ishl, 1) := by decide +kernel
theorem dX6_readLine_83 : decode cX6_readLine 83 = .ok (.ior, 1) := by decide +kernel
theorem dX6_readLine_84 : decode cX6_readLine 84 = .ok (.putfield 114, 3) := by decide +kernel
theorem dX6_readLine_87 : decode cX6_readLine 87 = .ok (.aload_n 0, 1) := by decide +kernel
theorem dX6_readLine_88 : decode cX6_readLine 88 = .ok (.invokevirtual 95, 3) := by decide +kernel
theorem dX6_readLine_91 : decode cX6_readLine 91 = .ok (.aload_n 0, 1) := by decide +kernel
theorem dX6_readLine_92 : decode cX6_readLine 92 = .ok (.getfield 61, 3) := by decide +kernel
theorem dX6_readLine_95 : decode cX6_readLine 95 = .ok (.ifCond .le 4, 3) := by decide +kernel
theorem dX6_readLine_98 : decode cX6_readLine 98 = .ok (.return_, 1) := by decide +kernel
theorem dX6_readLine_99 : decode cX6_readLine 99 = .ok (.iload_n 1, 1) := by decide +kernel
theorem dX6_readLine_100 : decode cX6_readLine 100 = .ok (.ifCond .ne 54, 3) := by decide +kernel
theorem dX6_readLine_103 : decode cX6_readLine 103 = .ok (.aload_n 0, 1) := by decide +kernel
theorem dX6_readLine_104 : decode cX6_readLine 104 = .ok (.getfield 16, 3) := by decide +kernel
theorem dX6_readLine_107 : decode cX6_readLine 107 = .ok (.iconst 2, 1) := by decide +kernel
theorem dX6_readLine_108 : decode cX6_readLine 108 = .ok (.aload_n 0, 1) := by decide +kernel
theorem dX6_readLine_109 : decode cX6_readLine 109 = .ok (.getfield 111, 3) := by decide +kernel
theorem dX6_readLine_112 : decode cX6_readLine 112 = .ok (.imul, 1) := by decide +kernel
theorem dX6_readLine_113 : decode cX6_readLine 113 = .ok (.iconst 1, 1) := by decide +kernel
theorem dX6_readLine_114 : decode cX6_readLine 114 = .ok (.iadd, 1) := by decide +kernel
theorem dX6_readLine_115 : decode cX6_readLine 115 = .ok (.aload_n 0, 1) := by decide +kernel
theorem dX6_readLine_116 : decode cX6_readLine 116 = .ok (.iconst 0, 1) := by decide +kernel
theorem dX6_readLine_117 : decode cX6_readLine 117 = .ok (.bipush 9, 2) := by decide +kernel
theorem dX6_readLine_119 : decode cX6_readLine 119 = .ok (.invokevirtual 101, 3) := by decide +kernel
theorem dX6_readLine_122 : decode cX6_readLine 122 = .ok (.iastore, 1) := by decide +kernel
theorem dX6_readLine_123 : decode cX6_readLine 123 = .ok (.aload_n 0, 1) := by decide +kernel
theorem dX6_readLine_124 : decode cX6_readLine 124 = .ok (.getfield 16, 3) := by decide +kernel
theorem dX6_readLine_127 : decode cX6_readLine 127 = .ok (.iconst 2, 1) := by decide +kernel
theorem dX6_readLine_128 : decode cX6_readLine 128 = .ok (.aload_n 0, 1) := by decide +kernel
theorem dX6_readLine_129 : decode cX6_readLine 129 = .ok (.getfield 111, 3) := by decide +kernel
theorem dX6_readLine_132 : decode cX6_readLine 132 = .ok (.imul, 1) := by decide +kernel
theorem dX6_readLine_133 : decode cX6_readLine 133 = .ok (.aload_n 0, 1) := by decide +kernel
theorem dX6_readLine_134 : decode cX6_readLine 134 = .ok (.iconst 0, 1) := by decide +kernel
theorem dX6_readLine_135 : decode cX6_readLine 135 = .ok (.bipush 9, 2) := by decide +kernel
theorem dX6_readLine_137 : decode cX6_readLine 137 = .ok (.invokevirtual 101, 3) := by decide +kernel
theorem dX6_readLine_140 : decode cX6_readLine 140 = .ok (.iastore, 1) := by decide +kernel
theorem dX6_readLine_141 : decode cX6_readLine 141 = .ok (.aload_n 0, 1) := by decide +kernel
theorem dX6_readLine_142 : decode cX6_readLine 142 = .ok (.dup, 1) := by decide +kernel
theorem dX6_readLine_143 : decode cX6_readLine 143 = .ok (.getfield 111, 3) := by decide +kernel
theorem dX6_readLine_146 : decode cX6_readLine 146 = .ok (.iconst 1, 1) := by decide +kernel
theorem dX6_readLine_147 : decode cX6_readLine 147 = .ok (.iadd, 1) := by decide +kernel
theorem dX6_readLine_148 : decode cX6_readLine 148 = .ok (.putfield 111, 3) := by decide +kernel
theorem dX6_readLine_151 : decode cX6_readLine 151 = .ok (.goto 20, 3) := by decide +kernel
theorem dX6_readLine_154 : decode cX6_readLine 154 = .ok (.iload_n 1, 1) := by decide +kernel
theorem dX6_readLine_155 : decode cX6_readLine 155 = .ok (.iconst 1, 1) := by decide +kernel
theorem dX6_readLine_156 : decode cX6_readLine 156 = .ok (.if_icmp .ne 10, 3) := by decide +kernel
theorem dX6_readLine_159 : decode cX6_readLine 159 = .ok (.aload_n 0, 1) := by decide +kernel
theorem dX6_readLine_160 : decode cX6_readLine 160 = .ok (.invokevirtual 117, 3) := by decide +kernel
theorem dX6_readLine_163 : decode cX6_readLine 163 = .ok (.goto 8, 3) := by decide +kernel
theorem dX6_readLine_166 : decode cX6_readLine 166 = .ok (.aload_n 0, 1) := by decide +kernel
theorem dX6_readLine_167 : decode cX6_readLine 167 = .ok (.iload_n 1, 1) := by decide +kernel
theorem dX6_readLine_168 : decode cX6_readLine 168 = .ok (.invokevirtual 120, 3) := by decide +kernel
theorem dX6_readLine_171 : decode cX6_readLine 171 = .ok (.aload_n 0, 1) := by decide +kernel
theorem dX6_readLine_172 : decode cX6_readLine 172 = .ok (.getfield 61, 3) := by decide +kernel
theorem dX6_readLine_175 : decode cX6_readLine 175 = .ok (.ifCond .ne 16, 3) := by decide +kernel
theorem dX6_readLine_178 : decode cX6_readLine 178 = .ok (.aload_n 0, 1) := by decide +kernel
theorem dX6_readLine_179 : decode cX6_readLine 179 = .ok (.getfield 70, 3) := by decide +kernel
theorem dX6_readLine_182 : decode cX6_readLine 182 = .ok (.iconst 3, 1) := by decide +kernel
theorem dX6_readLine_183 : decode cX6_readLine 183 = .ok (.if_icmp .eq 8, 3) := by decide +kernel
theorem dX6_readLine_186 : decode cX6_readLine 186 = .ok (.aload_n 0, 1) := by decide +kernel
theorem dX6_readLine_187 : decode cX6_readLine 187 = .ok (.iconst 2, 1) := by decide +kernel
theorem dX6_readLine_188 : decode cX6_readLine 188 = .ok (.invokevirtual 91, 3) := by decide +kernel
theorem dX6_readLine_191 : decode cX6_readLine 191 = .ok (.aload_n 0, 1) := by decide +kernel
theorem dX6_readLine_192 : decode cX6_readLine 192 = .ok (.invokevirtual 95, 3) := by decide +kernel
theorem dX6_readLine_195 : decode cX6_readLine 195 = .ok (.return_, 1) := by decide +kernel
theorem dX6_text_0 : decode cX6_text 0 = .ok (.aload_n 0, 1) := by decide +kernel
theorem dX6_text_1 : decode cX6_text 1 = .ok (.iconst 0, 1) := by decide +kernel
theorem dX6_text_2 : decode cX6_text 2 = .ok (.putfield 61, 3) := by decide +kernel
theorem dX6_text_5 : decode cX6_text 5 = .ok (.aload_n 0, 1) := by decide +kernel
theorem dX6_text_6 : decode cX6_text 6 = .ok (.iconst 0, 1) := by decide +kernel
theorem dX6_text_7 : decode cX6_text 7 = .ok (.putfield 73, 3) := by decide +kernel
theorem dX6_text_10 : decode cX6_text 10 = .ok (.aload_n 0, 1) := by decide +kernel
theorem dX6_text_11 : decode cX6_text 11 = .ok (.iconst 0, 1) := by decide +kernel
theorem dX6_text_12 : decode cX6_text 12 = .ok (.putfield 111, 3) := by decide +kernel
theorem dX6_text_15 : decode cX6_text 15 = .ok (.aload_n 0, 1) := by decide +kernel
theorem dX6_text_16 : decode cX6_text 16 = .ok (.iconst 0, 1) := by decide +kernel
theorem dX6_text_17 : decode cX6_text 17 = .ok (.putfield 98, 3) := by decide +kernel
theorem dX6_text_20 : decode cX6_text 20 = .ok (.aload_n 0, 1) := by decide +kernel
theorem dX6_text_21 : decode cX6_text 21 = .ok (.iconst 0, 1) := by decide +kernel
theorem dX6_text_22 : decode cX6_text 22 = .ok (.putfield 114, 3) := by decide +kernel
theorem dX6_text_25 : decode cX6_text 25 = .ok (.iconst 0, 1) := by decide +kernel
theorem dX6_text_26 : decode cX6_text 26 = .ok (.istore_n 1, 1) := by decide +kernel
theorem dX6_text_27 : decode cX6_text 27 = .ok (.iconst 0, 1) := by decide +kernel
theorem dX6_text_28 : decode cX6_text 28 = .ok (.istore_n 2, 1) := by decide +kernel
theorem dX6_text_29 : decode cX6_text 29 = .ok (.iload_n 2, 1) := by decide +kernel
theorem dX6_text_30 : decode cX6_text 30 = .ok (.bipush 25, 2) := by decide +kernel
theorem dX6_text_32 : decode cX6_text 32 = .ok (.if_icmp .ge 16, 3) := by decide +kernel
theorem dX6_text_35 : decode cX6_text 35 = .ok (.aload_n 0, 1) := by decide +kernel
theorem dX6_text_36 : decode cX6_text 36 = .ok (.getfield 16, 3) := by decide +kernel
theorem dX6_text_39 : decode cX6_text 39 = .ok (.iload_n 2, 1) := by decide +kernel
theorem dX6_text_40 : decode cX6_text 40 = .ok (.iconst 0, 1) := by decide +kernel
theorem dX6_text_41 : decode cX6_text 41 = .ok (.iastore, 1) := by decide +kernel
theorem dX6_text_42 : decode cX6_text 42 = .ok (.iinc 2 1, 3) := by decide +kernel
theorem dX6_text_45 : decode cX6_text 45 = .ok (.goto (-16), 3) := by decide +kernel
theorem dX6_text_48 : decode cX6_text 48 = .ok (.aload_n 0, 1) := by decide +kernel
theorem dX6_text_49 : decode cX6_text 49 = .ok (.invokevirtual 95, 3) := by decide +kernel
theorem dX6_text_52 : decode cX6_text 52 = .ok (.aload_n 0, 1) := by decide +kernel
theorem dX6_text_53 : decode cX6_text 53 = .ok (.getfield 61, 3) := by decide +kernel
theorem dX6_text_56 : decode cX6_text 56 = .ok (.ifCond .ne 20, 3) := by decide +kernel
theorem dX6_text_59 : decode cX6_text 59 = .ok (.aload_n 0, 1) := by decide +kernel
theorem dX6_text_60 : decode cX6_text 60 = .ok (.getfield 70, 3) := by decide +kernel
theorem dX6_text_63 : decode cX6_text 63 = .ok (.ifCond .eq 13, 3) := by decide +kernel
theorem dX6_text_66 : decode cX6_text 66 = .ok (.aload_n 0, 1) := by decide +kernel
theorem dX6_text_67 : decode cX6_text 67 = .ok (.invokevirtual 123, 3) := by decide +kernel
theorem dX6_text_70 : decode cX6_text 70 = .ok (.iinc 1 1, 3) := by decide +kernel
theorem dX6_text_73 : decode cX6_text 73 = .ok (.goto (-21), 3) := by decide +kernel
theorem dX6_text_76 : decode cX6_text 76 = .ok (.aload_n 0, 1) := by decide +kernel
theorem dX6_text_77 : decode cX6_text 77 = .ok (.iconst 0, 1) := by decide +kernel
theorem dX6_text_78 : decode cX6_text 78 = .ok (.putfield 57, 3) := by decide +kernel
theorem dX6_text_81 : decode cX6_text 81 = .ok (.aload_n 0, 1) := by decide +kernel
theorem dX6_text_82 : decode cX6_text 82 = .ok (.aload_n 0, 1) := by decide +kernel
theorem dX6_text_83 : decode cX6_text 83 = .ok (.getfield 61, 3) := by decide +kernel
theorem dX6_text_86 : decode cX6_text 86 = .ok (.putfield 126, 3) := by decide +kernel
theorem dX6_text_89 : decode cX6_text 89 = .ok (.aload_n 0, 1) := by decide +kernel
theorem dX6_text_90 : decode cX6_text 90 = .ok (.getfield 61, 3) := by decide +kernel
theorem dX6_text_93 : decode cX6_text 93 = .ok (.ifCond .le 11, 3) := by decide +kernel
theorem dX6_text_96 : decode cX6_text 96 = .ok (.bipush (-10), 2) := by decide +kernel
theorem dX6_text_98 : decode cX6_text 98 = .ok (.aload_n 0, 1) := by decide +kernel
theorem dX6_text_99 : decode cX6_text 99 = .ok (.getfield 67, 3) := by decide +kernel
theorem dX6_text_102 : decode cX6_text 102 = .ok (.isub, 1) := by decide +kernel
theorem dX6_text_103 : decode cX6_text 103 = .ok (.ireturn, 1) := by decide +kernel
theorem dX6_text_104 : decode cX6_text 104 = .ok (.iconst 0, 1) := by decide +kernel
theorem dX6_text_105 : decode cX6_text 105 = .ok (.istore_n 2, 1) := by decide +kernel
theorem dX6_text_106 : decode cX6_text 106 = .ok (.iload_n 2, 1) := by decide +kernel
theorem dX6_text_107 : decode cX6_text 107 = .ok (.bipush 25, 2) := by decide +kernel
theorem dX6_text_109 : decode cX6_text 109 = .ok (.if_icmp .ge 37, 3) := by decide +kernel
theorem dX6_text_112 : decode cX6_text 112 = .ok (.aload_n 0, 1) := by decide +kernel
theorem dX6_text_113 : decode cX6_text 113 = .ok (.getfield 7, 3) := by decide +kernel
theorem dX6_text_116 : decode cX6_text 116 = .ok (.iload_n 2, 1) := by decide +kernel
theorem dX6_text_117 : decode cX6_text 117 = .ok (.aload_n 0, 1) := by decide +kernel
theorem dX6_text_118 : decode cX6_text 118 = .ok (.getfield 16, 3) := by decide +kernel
theorem dX6_text_121 : decode cX6_text 121 = .ok (.iload_n 2, 1) := by decide +kernel
theorem dX6_text_122 : decode cX6_text 122 = .ok (.iaload, 1) := by decide +kernel
theorem dX6_text_123 : decode cX6_text 123 = .ok (.iastore, 1) := by decide +kernel
theorem dX6_text_124 : decode cX6_text 124 = .ok (.aload_n 0, 1) := by decide +kernel
theorem dX6_text_125 : decode cX6_text 125 = .ok (.getfield 13, 3) := by decide +kernel
theorem dX6_text_128 : decode cX6_text 128 = .ok (.iload_n 2, 1) := by decide +kernel
theorem dX6_text_129 : decode cX6_text 129 = .ok (.iconst 4, 1) := by decide +kernel
theorem dX6_text_130 : decode cX6_text 130 = .ok (.irem, 1) := by decide +kernel
theorem dX6_text_131 : decode cX6_text 131 = .ok (.aload_n 0, 1) := by decide +kernel
theorem dX6_text_132 : decode cX6_text 132 = .ok (.getfield 19, 3) := by decide +kernel
theorem dX6_text_135 : decode cX6_text 135 = .ok (.iload_n 2, 1) := by decide +kernel
theorem dX6_text_136 : decode cX6_text 136 = .ok (.iconst 4, 1) := by decide +kernel
theorem dX6_text_137 : decode cX6_text 137 = .ok (.irem, 1) := by decide +kernel
theorem dX6_text_138 : decode cX6_text 138 = .ok (.iaload, 1) := by decide +kernel
theorem dX6_text_139 : decode cX6_text 139 = .ok (.iastore, 1) := by decide +kernel
theorem dX6_text_140 : decode cX6_text 140 = .ok (.iinc 2 1, 3) := by decide +kernel
theorem dX6_text_143 : decode cX6_text 143 = .ok (.goto (-37), 3) := by decide +kernel
theorem dX6_text_146 : decode cX6_text 146 = .ok (.aload_n 0, 1) := by decide +kernel
theorem dX6_text_147 : decode cX6_text 147 = .ok (.aload_n 0, 1) := by decide +kernel
theorem dX6_text_148 : decode cX6_text 148 = .ok (.getfield 111, 3) := by decide +kernel
theorem dX6_text_151 : decode cX6_text 151 = .ok (.putfield 129, 3) := by decide +kernel
theorem dX6_text_154 : decode cX6_text 154 = .ok (.aload_n 0, 1) := by decide +kernel
theorem dX6_text_155 : decode cX6_text 155 = .ok (.aload_n 0, 1) := by decide +kernel
theorem dX6_text_156 : decode cX6_text 156 = .ok (.getfield 98, 3) := by decide +kernel
theorem dX6_text_159 : decode cX6_text 159 = .ok (.putfield 132, 3) := by decide +kernel
theorem dX6_text_162 : decode cX6_text 162 = .ok (.aload_n 0, 1) := by decide +kernel
theorem dX6_text_163 : decode cX6_text 163 = .ok (.iconst 0, 1) := by decide +kernel
theorem dX6_text_164 : decode cX6_text 164 = .ok (.putfield 135, 3) := by decide +kernel
theorem dX6_text_167 : decode cX6_text 167 = .ok (.aload_n 0, 1) := by decide +kernel
theorem dX6_text_168 : decode cX6_text 168 = .ok (.getfield 38, 3) := by decide +kernel
theorem dX6_text_171 : decode cX6_text 171 = .ok (.iconst 0, 1) := by decide +kernel
theorem dX6_text_172 : decode cX6_text 172 = .ok (.iconst 0, 1) := by decide +kernel
theorem dX6_text_173 : decode cX6_text 173 = .ok (.bastore, 1) := by decide +kernel
theorem dX6_text_174 : decode cX6_text 174 = .ok (.aload_n 0, 1) := by decide +kernel
theorem dX6_text_175 : decode cX6_text 175 = .ok (.getfield 38, 3) := by decide +kernel
theorem dX6_text_178 : decode cX6_text 178 = .ok (.iconst 1, 1) := by decide +kernel
theorem dX6_text_179 : decode cX6_text 179 = .ok (.iconst 0, 1) := by decide +kernel
theorem dX6_text_180 : decode cX6_text 180 = .ok (.bastore, 1) := by decide +kernel
theorem dX6_text_181 : decode cX6_text 181 = .ok (.iload_n 1, 1) := by decide +kernel
theorem dX6_text_182 : decode cX6_text 182 = .ok (.ireturn, 1) := by decide +kernel
theorem dX6_fault_0 : decode cX6_fault 0 = .ok (.aload_n 0, 1) := by decide +kernel
theorem dX6_fault_1 : decode cX6_fault 1 = .ok (.getfield 126, 3) := by decide +kernel
theorem dX6_fault_4 : decode cX6_fault 4 = .ok (.ireturn, 1) := by decide +kernel
theorem dX6_isLand_0 : decode cX6_isLand 0 = .ok (.iload_n 1, 1) := by decide +kernel
theorem dX6_isLand_1 : decode cX6_isLand 1 = .ok (.i2l, 1) := by decide +kernel
theorem dX6_isLand_2 : decode cX6_isLand 2 = .ok (.lconst 0, 1) := by decide +kernel
theorem dX6_isLand_3 : decode cX6_isLand 3 = .ok (.aload_n 0, 1) := by decide +kernel
theorem dX6_isLand_4 : decode cX6_isLand 4 = .ok (.getfield 129, 3) := by decide +kernel
theorem dX6_isLand_7 : decode cX6_isLand 7 = .ok (.iconst 1, 1) := by decide +kernel
theorem dX6_isLand_8 : decode cX6_isLand 8 = .ok (.isub, 1) := by decide +kernel
theorem dX6_isLand_9 : decode cX6_isLand 9 = .ok (.i2l, 1) := by decide +kernel
theorem dX6_isLand_10 : decode cX6_isLand 10 = .ok (.invokestatic 53, 3) := by decide +kernel
theorem dX6_isLand_13 : decode cX6_isLand 13 = .ok (.ireturn, 1) := by decide +kernel
theorem dX6_isReading_0 : decode cX6_isReading 0 = .ok (.iload_n 1, 1) := by decide +kernel
theorem dX6_isReading_1 : decode cX6_isReading 1 = .ok (.i2l, 1) := by decide +kernel
theorem dX6_isReading_2 : decode cX6_isReading 2 = .ok (.lconst 0, 1) := by decide +kernel
theorem dX6_isReading_3 : decode cX6_isReading 3 = .ok (.aload_n 0, 1) := by decide +kernel
theorem dX6_isReading_4 : decode cX6_isReading 4 = .ok (.getfield 132, 3) := by decide +kernel
theorem dX6_isReading_7 : decode cX6_isReading 7 = .ok (.iconst 1, 1) := by decide +kernel
theorem dX6_isReading_8 : decode cX6_isReading 8 = .ok (.isub, 1) := by decide +kernel
theorem dX6_isReading_9 : decode cX6_isReading 9 = .ok (.i2l, 1) := by decide +kernel
theorem dX6_isReading_10 : decode cX6_isReading 10 = .ok (.invokestatic 53, 3) := by decide +kernel
theorem dX6_isReading_13 : decode cX6_isReading 13 = .ok (.ireturn, 1) := by decide +kernel
theorem dX6_isFat_0 : decode cX6_isFat 0 = .ok (.iload_n 0, 1) := by decide +kernel
theorem dX6_isFat_1 : decode cX6_isFat 1 = .ok (.i2l, 1) := by decide +kernel
theorem dX6_isFat_2 : decode cX6_isFat 2 = .ok (.lconst 0, 1) := by decide +kernel
theorem dX6_isFat_3 : decode cX6_isFat 3 = .ok (.lconst 1, 1) := by decide +kernel
theorem dX6_isFat_4 : decode cX6_isFat 4 = .ok (.invokestatic 53, 3) := by decide +kernel
theorem dX6_isFat_7 : decode cX6_isFat 7 = .ok (.ireturn, 1) := by decide +kernel
theorem dX6_capOn_0 : decode cX6_capOn 0 = .ok (.bipush 40, 2) := by decide +kernel
theorem dX6_capOn_2 : decode cX6_capOn 2 = .ok (.aload_n 0, 1) := by decide +kernel
theorem dX6_capOn_3 : decode cX6_capOn 3 = .ok (.getfield 7, 3) := by decide +kernel
theorem dX6_capOn_6 : decode cX6_capOn 6 = .ok (.iload_n 1, 1) := by decide +kernel
theorem dX6_capOn_7 : decode cX6_capOn 7 = .ok (.bipush 14, 2) := by decide +kernel
theorem dX6_capOn_9 : decode cX6_capOn 9 = .ok (.iadd, 1) := by decide +kernel
theorem dX6_capOn_10 : decode cX6_capOn 10 = .ok (.iaload, 1) := by decide +kernel
theorem dX6_capOn_11 : decode cX6_capOn 11 = .ok (.isub, 1) := by decide +kernel
theorem dX6_capOn_12 : decode cX6_capOn 12 = .ok (.ireturn, 1) := by decide +kernel
theorem dX6_rule_0 : decode cX6_rule 0 = .ok (.iload_n 1, 1) := by decide +kernel
theorem dX6_rule_1 : decode cX6_rule 1 = .ok (.tableswitch 119 0 8 #[51, 56, 61, 69, 77, 83, 91, 99, 109], 51) := by decide +kernel
theorem dX6_rule_52 : decode cX6_rule 52 = .ok (.aload_n 0, 1) := by decide +kernel
theorem dX6_rule_53 : decode cX6_rule 53 = .ok (.getfield 129, 3) := by decide +kernel
theorem dX6_rule_56 : decode cX6_rule 56 = .ok (.ireturn, 1) := by decide +kernel
theorem dX6_rule_57 : decode cX6_rule 57 = .ok (.aload_n 0, 1) := by decide +kernel
theorem dX6_rule_58 : decode cX6_rule 58 = .ok (.getfield 132, 3) := by decide +kernel
theorem dX6_rule_61 : decode cX6_rule 61 = .ok (.ireturn, 1) := by decide +kernel
theorem dX6_rule_62 : decode cX6_rule 62 = .ok (.aload_n 0, 1) := by decide +kernel
theorem dX6_rule_63 : decode cX6_rule 63 = .ok (.getfield 7, 3) := by decide +kernel
theorem dX6_rule_66 : decode cX6_rule 66 = .ok (.bipush 12, 2) := by decide +kernel
theorem dX6_rule_68 : decode cX6_rule 68 = .ok (.iaload, 1) := by decide +kernel
theorem dX6_rule_69 : decode cX6_rule 69 = .ok (.ireturn, 1) := by decide +kernel
theorem dX6_rule_70 : decode cX6_rule 70 = .ok (.aload_n 0, 1) := by decide +kernel
theorem dX6_rule_71 : decode cX6_rule 71 = .ok (.getfield 7, 3) := by decide +kernel
theorem dX6_rule_74 : decode cX6_rule 74 = .ok (.bipush 13, 2) := by decide +kernel
theorem dX6_rule_76 : decode cX6_rule 76 = .ok (.iaload, 1) := by decide +kernel
theorem dX6_rule_77 : decode cX6_rule 77 = .ok (.ireturn, 1) := by decide +kernel
theorem dX6_rule_78 : decode cX6_rule 78 = .ok (.aload_n 0, 1) := by decide +kernel
theorem dX6_rule_79 : decode cX6_rule 79 = .ok (.iconst 0, 1) := by decide +kernel
theorem dX6_rule_80 : decode cX6_rule 80 = .ok (.invokevirtual 138, 3) := by decide +kernel
theorem dX6_rule_83 : decode cX6_rule 83 = .ok (.ireturn, 1) := by decide +kernel
theorem dX6_rule_84 : decode cX6_rule 84 = .ok (.aload_n 0, 1) := by decide +kernel
theorem dX6_rule_85 : decode cX6_rule 85 = .ok (.getfield 7, 3) := by decide +kernel
theorem dX6_rule_88 : decode cX6_rule 88 = .ok (.bipush 15, 2) := by decide +kernel
theorem dX6_rule_90 : decode cX6_rule 90 = .ok (.iaload, 1) := by decide +kernel
theorem dX6_rule_91 : decode cX6_rule 91 = .ok (.ireturn, 1) := by decide +kernel
theorem dX6_rule_92 : decode cX6_rule 92 = .ok (.aload_n 0, 1) := by decide +kernel
theorem dX6_rule_93 : decode cX6_rule 93 = .ok (.getfield 7, 3) := by decide +kernel
theorem dX6_rule_96 : decode cX6_rule 96 = .ok (.bipush 16, 2) := by decide +kernel
theorem dX6_rule_98 : decode cX6_rule 98 = .ok (.iaload, 1) := by decide +kernel
theorem dX6_rule_99 : decode cX6_rule 99 = .ok (.ireturn, 1) := by decide +kernel
theorem dX6_rule_100 : decode cX6_rule 100 = .ok (.aload_n 0, 1) := by decide +kernel
theorem dX6_rule_101 : decode cX6_rule 101 = .ok (.getfield 7, 3) := by decide +kernel
theorem dX6_rule_104 : decode cX6_rule 104 = .ok (.bipush 18, 2) := by decide +kernel
theorem dX6_rule_106 : decode cX6_rule 106 = .ok (.iaload, 1) := by decide +kernel
theorem dX6_rule_107 : decode cX6_rule 107 = .ok (.iconst 1, 1) := by decide +kernel
theorem dX6_rule_108 : decode cX6_rule 108 = .ok (.iadd, 1) := by decide +kernel
theorem dX6_rule_109 : decode cX6_rule 109 = .ok (.ireturn, 1) := by decide +kernel
theorem dX6_rule_110 : decode cX6_rule 110 = .ok (.aload_n 0, 1) := by decide +kernel
theorem dX6_rule_111 : decode cX6_rule 111 = .ok (.getfield 7, 3) := by decide +kernel
theorem dX6_rule_114 : decode cX6_rule 114 = .ok (.bipush 17, 2) := by decide +kernel
theorem dX6_rule_116 : decode cX6_rule 116 = .ok (.iaload, 1) := by decide +kernel
theorem dX6_rule_117 : decode cX6_rule 117 = .ok (.iconst 1, 1) := by decide +kernel
theorem dX6_rule_118 : decode cX6_rule 118 = .ok (.iadd, 1) := by decide +kernel
theorem dX6_rule_119 : decode cX6_rule 119 = .ok (.ireturn, 1) := by decide +kernel
theorem dX6_rule_120 : decode cX6_rule 120 = .ok (.iload_n 1, 1) := by decide +kernel
theorem dX6_rule_121 : decode cX6_rule 121 = .ok (.i2l, 1) := by decide +kernel
theorem dX6_rule_122 : decode cX6_rule 122 = .ok (.ldc2_w 141, 3) := by decide +kernel
theorem dX6_rule_125 : decode cX6_rule 125 = .ok (.ldc2_w 143, 3) := by decide +kernel
theorem dX6_rule_128 : decode cX6_rule 128 = .ok (.invokestatic 53, 3) := by decide +kernel
theorem dX6_rule_131 : decode cX6_rule 131 = .ok (.ifCond .eq 18, 3) := by decide +kernel
theorem dX6_rule_134 : decode cX6_rule 134 = .ok (.aload_n 0, 1) := by decide +kernel
theorem dX6_rule_135 : decode cX6_rule 135 = .ok (.getfield 7, 3) := by decide +kernel
theorem dX6_rule_138 : decode cX6_rule 138 = .ok (.bipush 19, 2) := by decide +kernel
theorem dX6_rule_140 : decode cX6_rule 140 = .ok (.iload_n 1, 1) := by decide +kernel
theorem dX6_rule_141 : decode cX6_rule 141 = .ok (.iadd, 1) := by decide +kernel
theorem dX6_rule_142 : decode cX6_rule 142 = .ok (.bipush 9, 2) := by decide +kernel
theorem dX6_rule_144 : decode cX6_rule 144 = .ok (.isub, 1) := by decide +kernel
theorem dX6_rule_145 : decode cX6_rule 145 = .ok (.iaload, 1) := by decide +kernel
theorem dX6_rule_146 : decode cX6_rule 146 = .ok (.goto 33, 3) := by decide +kernel
theorem dX6_rule_149 : decode cX6_rule 149 = .ok (.iload_n 1, 1) := by decide +kernel
theorem dX6_rule_150 : decode cX6_rule 150 = .ok (.i2l, 1) := by decide +kernel
theorem dX6_rule_151 : decode cX6_rule 151 = .ok (.ldc2_w 145, 3) := by decide +kernel
theorem dX6_rule_154 : decode cX6_rule 154 = .ok (.ldc2_w 147, 3) := by decide +kernel
theorem dX6_rule_157 : decode cX6_rule 157 = .ok (.invokestatic 53, 3) := by decide +kernel
theorem dX6_rule_160 : decode cX6_rule 160 = .ok (.ifCond .eq 18, 3) := by decide +kernel
theorem dX6_rule_163 : decode cX6_rule 163 = .ok (.aload_n 0, 1) := by decide +kernel
theorem dX6_rule_164 : decode cX6_rule 164 = .ok (.getfield 7, 3) := by decide +kernel
theorem dX6_rule_167 : decode cX6_rule 167 = .ok (.bipush 23, 2) := by decide +kernel
theorem dX6_rule_169 : decode cX6_rule 169 = .ok (.iload_n 1, 1) := by decide +kernel
theorem dX6_rule_170 : decode cX6_rule 170 = .ok (.iadd, 1) := by decide +kernel
theorem dX6_rule_171 : decode cX6_rule 171 = .ok (.bipush 12, 2) := by decide +kernel
theorem dX6_rule_173 : decode cX6_rule 173 = .ok (.isub, 1) := by decide +kernel
theorem dX6_rule_174 : decode cX6_rule 174 = .ok (.iaload, 1) := by decide +kernel
theorem dX6_rule_175 : decode cX6_rule 175 = .ok (.goto 4, 3) := by decide +kernel
theorem dX6_rule_178 : decode cX6_rule 178 = .ok (.iconst (-1), 1) := by decide +kernel
theorem dX6_rule_179 : decode cX6_rule 179 = .ok (.ireturn, 1) := by decide +kernel
theorem dX6_land_0 : decode cX6_land 0 = .ok (.aload_n 0, 1) := by decide +kernel
theorem dX6_land_1 : decode cX6_land 1 = .ok (.iload_n 1, 1) := by decide +kernel
theorem dX6_land_2 : decode cX6_land 2 = .ok (.invokevirtual 149, 3) := by decide +kernel
theorem dX6_land_5 : decode cX6_land 5 = .ok (.ifCond .eq 26, 3) := by decide +kernel
theorem dX6_land_8 : decode cX6_land 8 = .ok (.iload_n 2, 1) := by decide +kernel
theorem dX6_land_9 : decode cX6_land 9 = .ok (.i2l, 1) := by decide +kernel
theorem dX6_land_10 : decode cX6_land 10 = .ok (.lconst 0, 1) := by decide +kernel
theorem dX6_land_11 : decode cX6_land 11 = .ok (.lconst 1, 1) := by decide +kernel
theorem dX6_land_12 : decode cX6_land 12 = .ok (.invokestatic 53, 3) := by decide +kernel
theorem dX6_land_15 : decode cX6_land 15 = .ok (.ifCond .eq 16, 3) := by decide +kernel
theorem dX6_land_18 : decode cX6_land 18 = .ok (.aload_n 0, 1) := by decide +kernel
theorem dX6_land_19 : decode cX6_land 19 = .ok (.getfield 7, 3) := by decide +kernel
theorem dX6_land_22 : decode cX6_land 22 = .ok (.iconst 2, 1) := by decide +kernel
theorem dX6_land_23 : decode cX6_land 23 = .ok (.iload_n 1, 1) := by decide +kernel
theorem dX6_land_24 : decode cX6_land 24 = .ok (.imul, 1) := by decide +kernel
theorem dX6_land_25 : decode cX6_land 25 = .ok (.iload_n 2, 1) := by decide +kernel
theorem dX6_land_26 : decode cX6_land 26 = .ok (.iadd, 1) := by decide +kernel
theorem dX6_land_27 : decode cX6_land 27 = .ok (.iaload, 1) := by decide +kernel
theorem dX6_land_28 : decode cX6_land 28 = .ok (.goto 4, 3) := by decide +kernel
theorem dX6_land_31 : decode cX6_land 31 = .ok (.iconst (-1), 1) := by decide +kernel
theorem dX6_land_32 : decode cX6_land 32 = .ok (.ireturn, 1) := by decide +kernel
theorem dX6_canBe_0 : decode cX6_canBe 0 = .ok (.iconst 1, 1) := by decide +kernel
theorem dX6_canBe_1 : decode cX6_canBe 1 = .ok (.aload_n 0, 1) := by decide +kernel
theorem dX6_canBe_2 : decode cX6_canBe 2 = .ok (.getfield 7, 3) := by decide +kernel
theorem dX6_canBe_5 : decode cX6_canBe 5 = .ok (.bipush 21, 2) := by decide +kernel
theorem dX6_canBe_7 : decode cX6_canBe 7 = .ok (.iaload, 1) := by decide +kernel
theorem dX6_canBe_8 : decode cX6_canBe 8 = .ok (.ishl, 1) := by decide +kernel
theorem dX6_canBe_9 : decode cX6_canBe 9 = .ok (.iconst 1, 1) := by decide +kernel
theorem dX6_canBe_10 : decode cX6_canBe 10 = .ok (.isub, 1) := by decide +kernel
theorem dX6_canBe_11 : decode cX6_canBe 11 = .ok (.istore_n 2, 1) := by decide +kernel
theorem dX6_canBe_12 : decode cX6_canBe 12 = .ok (.aload_n 0, 1) := by decide +kernel
theorem dX6_canBe_13 : decode cX6_canBe 13 = .ok (.getfield 13, 3) := by decide +kernel
theorem dX6_canBe_16 : decode cX6_canBe 16 = .ok (.iload_n 1, 1) := by decide +kernel
theorem dX6_canBe_17 : decode cX6_canBe 17 = .ok (.iaload, 1) := by decide +kernel
theorem dX6_canBe_18 : decode cX6_canBe 18 = .ok (.iload_n 2, 1) := by decide +kernel
theorem dX6_canBe_19 : decode cX6_canBe 19 = .ok (.iand, 1) := by decide +kernel
theorem dX6_canBe_20 : decode cX6_canBe 20 = .ok (.aload_n 0, 1) := by decide +kernel
theorem dX6_canBe_21 : decode cX6_canBe 21 = .ok (.getfield 7, 3) := by decide +kernel
theorem dX6_canBe_24 : decode cX6_canBe 24 = .ok (.bipush 22, 2) := by decide +kernel
theorem dX6_canBe_26 : decode cX6_canBe 26 = .ok (.iaload, 1) := by decide +kernel
theorem dX6_canBe_27 : decode cX6_canBe 27 = .ok (.if_icmp .ne 7, 3) := by decide +kernel
theorem dX6_canBe_30 : decode cX6_canBe 30 = .ok (.iconst 1, 1) := by decide +kernel
theorem dX6_canBe_31 : decode cX6_canBe 31 = .ok (.goto 4, 3) := by decide +kernel
theorem dX6_canBe_34 : decode cX6_canBe 34 = .ok (.iconst 0, 1) := by decide +kernel
theorem dX6_canBe_35 : decode cX6_canBe 35 = .ok (.ireturn, 1) := by decide +kernel
theorem dX6_reading_0 : decode cX6_reading 0 = .ok (.aload_n 0, 1) := by decide +kernel
theorem dX6_reading_1 : decode cX6_reading 1 = .ok (.iload_n 1, 1) := by decide +kernel
theorem dX6_reading_2 : decode cX6_reading 2 = .ok (.invokevirtual 153, 3) := by decide +kernel
theorem dX6_reading_5 : decode cX6_reading 5 = .ok (.ifCond .ne 5, 3) := by decide +kernel
theorem dX6_reading_8 : decode cX6_reading 8 = .ok (.iconst (-1), 1) := by decide +kernel
theorem dX6_reading_9 : decode cX6_reading 9 = .ok (.ireturn, 1) := by decide +kernel
theorem dX6_reading_10 : decode cX6_reading 10 = .ok (.iload_n 2, 1) := by decide +kernel
theorem dX6_reading_11 : decode cX6_reading 11 = .ok (.i2l, 1) := by decide +kernel
theorem dX6_reading_12 : decode cX6_reading 12 = .ok (.ldc2_w 156, 3) := by decide +kernel
theorem dX6_reading_15 : decode cX6_reading 15 = .ok (.ldc2_w 158, 3) := by decide +kernel
theorem dX6_reading_18 : decode cX6_reading 18 = .ok (.invokestatic 53, 3) := by decide +kernel
theorem dX6_reading_21 : decode cX6_reading 21 = .ok (.ifCond .eq 17, 3) := by decide +kernel
theorem dX6_reading_24 : decode cX6_reading 24 = .ok (.aload_n 0, 1) := by decide +kernel
theorem dX6_reading_25 : decode cX6_reading 25 = .ok (.getfield 13, 3) := by decide +kernel
theorem dX6_reading_28 : decode cX6_reading 28 = .ok (.iload_n 1, 1) := by decide +kernel
theorem dX6_reading_29 : decode cX6_reading 29 = .ok (.iaload, 1) := by decide +kernel
theorem dX6_reading_30 : decode cX6_reading 30 = .ok (.iload_n 2, 1) := by decide +kernel
theorem dX6_reading_31 : decode cX6_reading 31 = .ok (.bipush 10, 2) := by decide +kernel
theorem dX6_reading_33 : decode cX6_reading 33 = .ok (.isub, 1) := by decide +kernel
theorem dX6_reading_34 : decode cX6_reading 34 = .ok (.ishr, 1) := by decide +kernel
theorem dX6_reading_35 : decode cX6_reading 35 = .ok (.iconst 1, 1) := by decide +kernel
theorem dX6_reading_36 : decode cX6_reading 36 = .ok (.iand, 1) := by decide +kernel
theorem dX6_reading_37 : decode cX6_reading 37 = .ok (.ireturn, 1) := by decide +kernel
theorem dX6_reading_38 : decode cX6_reading 38 = .ok (.iload_n 2, 1) := by decide +kernel
theorem dX6_reading_39 : decode cX6_reading 39 = .ok (.ifCond .ne 15, 3) := by decide +kernel
theorem dX6_reading_42 : decode cX6_reading 42 = .ok (.aload_n 0, 1) := by decide +kernel
theorem dX6_reading_43 : decode cX6_reading 43 = .ok (.getfield 7, 3) := by decide +kernel
theorem dX6_reading_46 : decode cX6_reading 46 = .ok (.bipush 8, 2) := by decide +kernel
theorem dX6_reading_48 : decode cX6_reading 48 = .ok (.iload_n 1, 1) := by decide +kernel
theorem dX6_reading_49 : decode cX6_reading 49 = .ok (.iadd, 1) := by decide +kernel
theorem dX6_reading_50 : decode cX6_reading 50 = .ok (.iaload, 1) := by decide +kernel
theorem dX6_reading_51 : decode cX6_reading 51 = .ok (.goto 25, 3) := by decide +kernel
theorem dX6_reading_54 : decode cX6_reading 54 = .ok (.iload_n 2, 1) := by decide +kernel
theorem dX6_reading_55 : decode cX6_reading 55 = .ok (.iconst 1, 1) := by decide +kernel
theorem dX6_reading_56 : decode cX6_reading 56 = .ok (.if_icmp .ne 19, 3) := by decide +kernel
theorem dX6_reading_59 : decode cX6_reading 59 = .ok (.aload_n 0, 1) := by decide +kernel
theorem dX6_reading_60 : decode cX6_reading 60 = .ok (.iload_n 1, 1) := by decide +kernel
theorem dX6_reading_61 : decode cX6_reading 61 = .ok (.invokevirtual 160, 3) := by decide +kernel
theorem dX6_reading_64 : decode cX6_reading 64 = .ok (.ifCond .eq 7, 3) := by decide +kernel
theorem dX6_reading_67 : decode cX6_reading 67 = .ok (.iconst 1, 1) := by decide +kernel
theorem dX6_reading_68 : decode cX6_reading 68 = .ok (.goto 8, 3) := by decide +kernel
theorem dX6_reading_71 : decode cX6_reading 71 = .ok (.iconst 0, 1) := by decide +kernel
theorem dX6_reading_72 : decode cX6_reading 72 = .ok (.goto 4, 3) := by decide +kernel
theorem dX6_reading_75 : decode cX6_reading 75 = .ok (.iconst (-1), 1) := by decide +kernel
theorem dX6_reading_76 : decode cX6_reading 76 = .ok (.ireturn, 1) := by decide +kernel
theorem dX6_bearsOn_0 : decode cX6_bearsOn 0 = .ok (.iconst 0, 1) := by decide +kernel
theorem dX6_bearsOn_1 : decode cX6_bearsOn 1 = .ok (.istore_n 3, 1) := by decide +kernel
theorem dX6_bearsOn_2 : decode cX6_bearsOn 2 = .ok (.iconst 0, 1) := by decide +kernel
theorem dX6_bearsOn_3 : decode cX6_bearsOn 3 = .ok (.istore 4, 2) := by decide +kernel
theorem dX6_bearsOn_5 : decode cX6_bearsOn 5 = .ok (.iload 4, 2) := by decide +kernel
theorem dX6_bearsOn_7 : decode cX6_bearsOn 7 = .ok (.aload_n 0, 1) := by decide +kernel
theorem dX6_bearsOn_8 : decode cX6_bearsOn 8 = .ok (.getfield 129, 3) := by decide +kernel
theorem dX6_bearsOn_11 : decode cX6_bearsOn 11 = .ok (.if_icmp .ge 25, 3) := by decide +kernel
theorem dX6_bearsOn_14 : decode cX6_bearsOn 14 = .ok (.iload_n 3, 1) := by decide +kernel
theorem dX6_bearsOn_15 : decode cX6_bearsOn 15 = .ok (.aload_n 0, 1) := by decide +kernel
theorem dX6_bearsOn_16 : decode cX6_bearsOn 16 = .ok (.getfield 7, 3) := by decide +kernel
theorem dX6_bearsOn_19 : decode cX6_bearsOn 19 = .ok (.iload_n 1, 1) := by decide +kernel
theorem dX6_bearsOn_20 : decode cX6_bearsOn 20 = .ok (.iconst 2, 1) := by decide +kernel
theorem dX6_bearsOn_21 : decode cX6_bearsOn 21 = .ok (.iload 4, 2) := by decide +kernel
theorem dX6_bearsOn_23 : decode cX6_bearsOn 23 = .ok (.imul, 1) := by decide +kernel
theorem dX6_bearsOn_24 : decode cX6_bearsOn 24 = .ok (.iadd, 1) := by decide +kernel
theorem dX6_bearsOn_25 : decode cX6_bearsOn 25 = .ok (.iload_n 2, 1) := by decide +kernel
theorem dX6_bearsOn_26 : decode cX6_bearsOn 26 = .ok (.iadd, 1) := by decide +kernel
theorem dX6_bearsOn_27 : decode cX6_bearsOn 27 = .ok (.iaload, 1) := by decide +kernel
theorem dX6_bearsOn_28 : decode cX6_bearsOn 28 = .ok (.iadd, 1) := by decide +kernel
theorem dX6_bearsOn_29 : decode cX6_bearsOn 29 = .ok (.istore_n 3, 1) := by decide +kernel
theorem dX6_bearsOn_30 : decode cX6_bearsOn 30 = .ok (.iinc 4 1, 3) := by decide +kernel
theorem dX6_bearsOn_33 : decode cX6_bearsOn 33 = .ok (.goto (-28), 3) := by decide +kernel
theorem dX6_bearsOn_36 : decode cX6_bearsOn 36 = .ok (.iload_n 3, 1) := by decide +kernel
theorem dX6_bearsOn_37 : decode cX6_bearsOn 37 = .ok (.ireturn, 1) := by decide +kernel
theorem dX6_bears_0 : decode cX6_bears 0 = .ok (.iload_n 1, 1) := by decide +kernel
theorem dX6_bears_1 : decode cX6_bears 1 = .ok (.invokestatic 163, 3) := by decide +kernel
theorem dX6_bears_4 : decode cX6_bears 4 = .ok (.ifCond .eq 12, 3) := by decide +kernel
theorem dX6_bears_7 : decode cX6_bears 7 = .ok (.aload_n 0, 1) := by decide +kernel
theorem dX6_bears_8 : decode cX6_bears 8 = .ok (.iconst 0, 1) := by decide +kernel
theorem dX6_bears_9 : decode cX6_bears 9 = .ok (.iload_n 1, 1) := by decide +kernel
theorem dX6_bears_10 : decode cX6_bears 10 = .ok (.invokevirtual 166, 3) := by decide +kernel
theorem dX6_bears_13 : decode cX6_bears 13 = .ok (.goto 4, 3) := by decide +kernel
theorem dX6_bears_16 : decode cX6_bears 16 = .ok (.iconst (-1), 1) := by decide +kernel
theorem dX6_bears_17 : decode cX6_bears 17 = .ok (.ireturn, 1) := by decide +kernel
theorem dX6_sets_0 : decode cX6_sets 0 = .ok (.iload_n 1, 1) := by decide +kernel
theorem dX6_sets_1 : decode cX6_sets 1 = .ok (.ifCond .ne 5, 3) := by decide +kernel
theorem dX6_sets_4 : decode cX6_sets 4 = .ok (.iconst (-1), 1) := by decide +kernel
theorem dX6_sets_5 : decode cX6_sets 5 = .ok (.ireturn, 1) := by decide +kernel
theorem dX6_sets_6 : decode cX6_sets 6 = .ok (.aload_n 0, 1) := by decide +kernel
theorem dX6_sets_7 : decode cX6_sets 7 = .ok (.getfield 7, 3) := by decide +kernel
theorem dX6_sets_10 : decode cX6_sets 10 = .ok (.iload_n 2, 1) := by decide +kernel
theorem dX6_sets_11 : decode cX6_sets 11 = .ok (.iaload, 1) := by decide +kernel
theorem dX6_sets_12 : decode cX6_sets 12 = .ok (.istore 4, 2) := by decide +kernel
theorem dX6_sets_14 : decode cX6_sets 14 = .ok (.aload_n 0, 1) := by decide +kernel
theorem dX6_sets_15 : decode cX6_sets 15 = .ok (.getfield 7, 3) := by decide +kernel
theorem dX6_sets_18 : decode cX6_sets 18 = .ok (.iload_n 2, 1) := by decide +kernel
theorem dX6_sets_19 : decode cX6_sets 19 = .ok (.iload_n 3, 1) := by decide +kernel
theorem dX6_sets_20 : decode cX6_sets 20 = .ok (.iastore, 1) := by decide +kernel
theorem dX6_sets_21 : decode cX6_sets 21 = .ok (.iload 4, 2) := by decide +kernel
theorem dX6_sets_23 : decode cX6_sets 23 = .ok (.ireturn, 1) := by decide +kernel
theorem dX6_till_0 : decode cX6_till 0 = .ok (.aload_n 0, 1) := by decide +kernel
theorem dX6_till_1 : decode cX6_till 1 = .ok (.aload_n 0, 1) := by decide +kernel
theorem dX6_till_2 : decode cX6_till 2 = .ok (.iload_n 1, 1) := by decide +kernel
theorem dX6_till_3 : decode cX6_till 3 = .ok (.invokevirtual 149, 3) := by decide +kernel
theorem dX6_till_6 : decode cX6_till 6 = .ok (.ifCond .eq 29, 3) := by decide +kernel
theorem dX6_till_9 : decode cX6_till 9 = .ok (.iload_n 2, 1) := by decide +kernel
theorem dX6_till_10 : decode cX6_till 10 = .ok (.i2l, 1) := by decide +kernel
theorem dX6_till_11 : decode cX6_till 11 = .ok (.lconst 0, 1) := by decide +kernel
theorem dX6_till_12 : decode cX6_till 12 = .ok (.lconst 1, 1) := by decide +kernel
theorem dX6_till_13 : decode cX6_till 13 = .ok (.invokestatic 53, 3) := by decide +kernel
theorem dX6_till_16 : decode cX6_till 16 = .ok (.ifCond .eq 19, 3) := by decide +kernel
theorem dX6_till_19 : decode cX6_till 19 = .ok (.iload_n 3, 1) := by decide +kernel
theorem dX6_till_20 : decode cX6_till 20 = .ok (.i2l, 1) := by decide +kernel
theorem dX6_till_21 : decode cX6_till 21 = .ok (.lconst 0, 1) := by decide +kernel
theorem dX6_till_22 : decode cX6_till 22 = .ok (.ldc2_w 141, 3) := by decide +kernel
theorem dX6_till_25 : decode cX6_till 25 = .ok (.invokestatic 53, 3) := by decide +kernel
theorem dX6_till_28 : decode cX6_till 28 = .ok (.ifCond .eq 7, 3) := by decide +kernel
theorem dX6_till_31 : decode cX6_till 31 = .ok (.iconst 1, 1) := by decide +kernel
theorem dX6_till_32 : decode cX6_till 32 = .ok (.goto 4, 3) := by decide +kernel
theorem dX6_till_35 : decode cX6_till 35 = .ok (.iconst 0, 1) := by decide +kernel
theorem dX6_till_36 : decode cX6_till 36 = .ok (.iconst 2, 1) := by decide +kernel
theorem dX6_till_37 : decode cX6_till 37 = .ok (.iload_n 1, 1) := by decide +kernel
theorem dX6_till_38 : decode cX6_till 38 = .ok (.imul, 1) := by decide +kernel
theorem dX6_till_39 : decode cX6_till 39 = .ok (.iload_n 2, 1) := by decide +kernel
theorem dX6_till_40 : decode cX6_till 40 = .ok (.iadd, 1) := by decide +kernel
theorem dX6_till_41 : decode cX6_till 41 = .ok (.iload_n 3, 1) := by decide +kernel
theorem dX6_till_42 : decode cX6_till 42 = .ok (.invokevirtual 169, 3) := by decide +kernel
theorem dX6_till_45 : decode cX6_till 45 = .ok (.ireturn, 1) := by decide +kernel
theorem dX6_weigh_0 : decode cX6_weigh 0 = .ok (.aload_n 0, 1) := by decide +kernel
theorem dX6_weigh_1 : decode cX6_weigh 1 = .ok (.aload_n 0, 1) := by decide +kernel
theorem dX6_weigh_2 : decode cX6_weigh 2 = .ok (.iload_n 1, 1) := by decide +kernel
theorem dX6_weigh_3 : decode cX6_weigh 3 = .ok (.invokevirtual 153, 3) := by decide +kernel
theorem dX6_weigh_6 : decode cX6_weigh 6 = .ok (.ifCond .eq 19, 3) := by decide +kernel
theorem dX6_weigh_9 : decode cX6_weigh 9 = .ok (.iload_n 2, 1) := by decide +kernel
theorem dX6_weigh_10 : decode cX6_weigh 10 = .ok (.i2l, 1) := by decide +kernel
theorem dX6_weigh_11 : decode cX6_weigh 11 = .ok (.lconst 1, 1) := by decide +kernel
theorem dX6_weigh_12 : decode cX6_weigh 12 = .ok (.ldc2_w 141, 3) := by decide +kernel
theorem dX6_weigh_15 : decode cX6_weigh 15 = .ok (.invokestatic 53, 3) := by decide +kernel
theorem dX6_weigh_18 : decode cX6_weigh 18 = .ok (.ifCond .eq 7, 3) := by decide +kernel
theorem dX6_weigh_21 : decode cX6_weigh 21 = .ok (.iconst 1, 1) := by decide +kernel
theorem dX6_weigh_22 : decode cX6_weigh 22 = .ok (.goto 4, 3) := by decide +kernel
theorem dX6_weigh_25 : decode cX6_weigh 25 = .ok (.iconst 0, 1) := by decide +kernel
theorem dX6_weigh_26 : decode cX6_weigh 26 = .ok (.bipush 8, 2) := by decide +kernel
theorem dX6_weigh_28 : decode cX6_weigh 28 = .ok (.iload_n 1, 1) := by decide +kernel
theorem dX6_weigh_29 : decode cX6_weigh 29 = .ok (.iadd, 1) := by decide +kernel
theorem dX6_weigh_30 : decode cX6_weigh 30 = .ok (.iload_n 2, 1) := by decide +kernel
theorem dX6_weigh_31 : decode cX6_weigh 31 = .ok (.invokevirtual 169, 3) := by decide +kernel
theorem dX6_weigh_34 : decode cX6_weigh 34 = .ok (.ireturn, 1) := by decide +kernel
theorem dX6_need_0 : decode cX6_need 0 = .ok (.aload_n 0, 1) := by decide +kernel
theorem dX6_need_1 : decode cX6_need 1 = .ok (.iload_n 1, 1) := by decide +kernel
theorem dX6_need_2 : decode cX6_need 2 = .ok (.i2l, 1) := by decide +kernel
theorem dX6_need_3 : decode cX6_need 3 = .ok (.lconst 0, 1) := by decide +kernel
theorem dX6_need_4 : decode cX6_need 4 = .ok (.ldc2_w 173, 3) := by decide +kernel
theorem dX6_need_7 : decode cX6_need 7 = .ok (.invokestatic 53, 3) := by decide +kernel
theorem dX6_need_10 : decode cX6_need 10 = .ok (.bipush 12, 2) := by decide +kernel
theorem dX6_need_12 : decode cX6_need 12 = .ok (.iload_n 1, 1) := by decide +kernel
theorem dX6_need_13 : decode cX6_need 13 = .ok (.invokevirtual 169, 3) := by decide +kernel
theorem dX6_need_16 : decode cX6_need 16 = .ok (.ireturn, 1) := by decide +kernel
theorem dX6_hunger_0 : decode cX6_hunger 0 = .ok (.aload_n 0, 1) := by decide +kernel
theorem dX6_hunger_1 : decode cX6_hunger 1 = .ok (.iload_n 1, 1) := by decide +kernel
theorem dX6_hunger_2 : decode cX6_hunger 2 = .ok (.i2l, 1) := by decide +kernel
theorem dX6_hunger_3 : decode cX6_hunger 3 = .ok (.lconst 0, 1) := by decide +kernel
theorem dX6_hunger_4 : decode cX6_hunger 4 = .ok (.ldc2_w 175, 3) := by decide +kernel
theorem dX6_hunger_7 : decode cX6_hunger 7 = .ok (.invokestatic 53, 3) := by decide +kernel
theorem dX6_hunger_10 : decode cX6_hunger 10 = .ok (.bipush 13, 2) := by decide +kernel
theorem dX6_hunger_12 : decode cX6_hunger 12 = .ok (.iload_n 1, 1) := by decide +kernel
theorem dX6_hunger_13 : decode cX6_hunger 13 = .ok (.invokevirtual 169, 3) := by decide +kernel
theorem dX6_hunger_16 : decode cX6_hunger 16 = .ok (.ireturn, 1) := by decide +kernel
theorem dX6_cap_0 : decode cX6_cap 0 = .ok (.iload_n 1, 1) := by decide +kernel
theorem dX6_cap_1 : decode cX6_cap 1 = .ok (.i2l, 1) := by decide +kernel
theorem dX6_cap_2 : decode cX6_cap 2 = .ok (.lconst 0, 1) := by decide +kernel
theorem dX6_cap_3 : decode cX6_cap 3 = .ok (.ldc2_w 173, 3) := by decide +kernel
theorem dX6_cap_6 : decode cX6_cap 6 = .ok (.invokestatic 53, 3) := by decide +kernel
theorem dX6_cap_9 : decode cX6_cap 9 = .ok (.ifCond .ne 5, 3) := by decide +kernel
theorem dX6_cap_12 : decode cX6_cap 12 = .ok (.iconst (-1), 1) := by decide +kernel
theorem dX6_cap_13 : decode cX6_cap 13 = .ok (.ireturn, 1) := by decide +kernel
theorem dX6_cap_14 : decode cX6_cap 14 = .ok (.aload_n 0, 1) := by decide +kernel
theorem dX6_cap_15 : decode cX6_cap 15 = .ok (.getfield 7, 3) := by decide +kernel
theorem dX6_cap_18 : decode cX6_cap 18 = .ok (.bipush 16, 2) := by decide +kernel
theorem dX6_cap_20 : decode cX6_cap 20 = .ok (.iaload, 1) := by decide +kernel
theorem dX6_cap_21 : decode cX6_cap 21 = .ok (.iload_n 1, 1) := by decide +kernel
theorem dX6_cap_22 : decode cX6_cap 22 = .ok (.if_icmp .le 8, 3) := by decide +kernel
theorem dX6_cap_25 : decode cX6_cap 25 = .ok (.bipush (-2), 2) := by decide +kernel
theorem dX6_cap_27 : decode cX6_cap 27 = .ok (.goto 17, 3) := by decide +kernel
theorem dX6_cap_30 : decode cX6_cap 30 = .ok (.bipush 40, 2) := by decide +kernel
theorem dX6_cap_32 : decode cX6_cap 32 = .ok (.aload_n 0, 1) := by decide +kernel
theorem dX6_cap_33 : decode cX6_cap 33 = .ok (.iconst 1, 1) := by decide +kernel
theorem dX6_cap_34 : decode cX6_cap 34 = .ok (.bipush 14, 2) := by decide +kernel
theorem dX6_cap_36 : decode cX6_cap 36 = .ok (.bipush 40, 2) := by decide +kernel
theorem dX6_cap_38 : decode cX6_cap 38 = .ok (.iload_n 1, 1) := by decide +kernel
theorem dX6_cap_39 : decode cX6_cap 39 = .ok (.isub, 1) := by decide +kernel
theorem dX6_cap_40 : decode cX6_cap 40 = .ok (.invokevirtual 169, 3) := by decide +kernel
theorem dX6_cap_43 : decode cX6_cap 43 = .ok (.isub, 1) := by decide +kernel
theorem dX6_cap_44 : decode cX6_cap 44 = .ok (.ireturn, 1) := by decide +kernel
theorem dX6_rot_0 : decode cX6_rot 0 = .ok (.aload_n 0, 1) := by decide +kernel
theorem dX6_rot_1 : decode cX6_rot 1 = .ok (.iload_n 1, 1) := by decide +kernel
theorem dX6_rot_2 : decode cX6_rot 2 = .ok (.i2l, 1) := by decide +kernel
theorem dX6_rot_3 : decode cX6_rot 3 = .ok (.lconst 0, 1) := by decide +kernel
theorem dX6_rot_4 : decode cX6_rot 4 = .ok (.ldc2_w 141, 3) := by decide +kernel
theorem dX6_rot_7 : decode cX6_rot 7 = .ok (.invokestatic 53, 3) := by decide +kernel
theorem dX6_rot_10 : decode cX6_rot 10 = .ok (.ifCond .eq 12, 3) := by decide +kernel
theorem dX6_rot_13 : decode cX6_rot 13 = .ok (.iload_n 1, 1) := by decide +kernel
theorem dX6_rot_14 : decode cX6_rot 14 = .ok (.iconst 1, 1) := by decide +kernel
theorem dX6_rot_15 : decode cX6_rot 15 = .ok (.if_icmp .eq 7, 3) := by decide +kernel
theorem dX6_rot_18 : decode cX6_rot 18 = .ok (.iconst 1, 1) := by decide +kernel
theorem dX6_rot_19 : decode cX6_rot 19 = .ok (.goto 4, 3) := by decide +kernel
theorem dX6_rot_22 : decode cX6_rot 22 = .ok (.iconst 0, 1) := by decide +kernel
theorem dX6_rot_23 : decode cX6_rot 23 = .ok (.bipush 15, 2) := by decide +kernel
theorem dX6_rot_25 : decode cX6_rot 25 = .ok (.iload_n 1, 1) := by decide +kernel
theorem dX6_rot_26 : decode cX6_rot 26 = .ok (.invokevirtual 169, 3) := by decide +kernel
theorem dX6_rot_29 : decode cX6_rot 29 = .ok (.ireturn, 1) := by decide +kernel
theorem dX6_fill_0 : decode cX6_fill 0 = .ok (.aload_n 0, 1) := by decide +kernel
theorem dX6_fill_1 : decode cX6_fill 1 = .ok (.iload_n 1, 1) := by decide +kernel
theorem dX6_fill_2 : decode cX6_fill 2 = .ok (.i2l, 1) := by decide +kernel
theorem dX6_fill_3 : decode cX6_fill 3 = .ok (.lconst 0, 1) := by decide +kernel
theorem dX6_fill_4 : decode cX6_fill 4 = .ok (.aload_n 0, 1) := by decide +kernel
theorem dX6_fill_5 : decode cX6_fill 5 = .ok (.iconst 0, 1) := by decide +kernel
theorem dX6_fill_6 : decode cX6_fill 6 = .ok (.invokevirtual 138, 3) := by decide +kernel
theorem dX6_fill_9 : decode cX6_fill 9 = .ok (.i2l, 1) := by decide +kernel
theorem dX6_fill_10 : decode cX6_fill 10 = .ok (.invokestatic 53, 3) := by decide +kernel
theorem dX6_fill_13 : decode cX6_fill 13 = .ok (.bipush 16, 2) := by decide +kernel
theorem dX6_fill_15 : decode cX6_fill 15 = .ok (.iload_n 1, 1) := by decide +kernel
theorem dX6_fill_16 : decode cX6_fill 16 = .ok (.invokevirtual 169, 3) := by decide +kernel
theorem dX6_fill_19 : decode cX6_fill 19 = .ok (.ireturn, 1) := by decide +kernel
theorem dX6_price_0 : decode cX6_price 0 = .ok (.iload_n 1, 1) := by decide +kernel
theorem dX6_price_1 : decode cX6_price 1 = .ok (.invokestatic 163, 3) := by decide +kernel
theorem dX6_price_4 : decode cX6_price 4 = .ok (.ifCond .eq 32, 3) := by decide +kernel
theorem dX6_price_7 : decode cX6_price 7 = .ok (.iload_n 2, 1) := by decide +kernel
theorem dX6_price_8 : decode cX6_price 8 = .ok (.i2l, 1) := by decide +kernel
theorem dX6_price_9 : decode cX6_price 9 = .ok (.lconst 0, 1) := by decide +kernel
theorem dX6_price_10 : decode cX6_price 10 = .ok (.ldc2_w 141, 3) := by decide +kernel
theorem dX6_price_13 : decode cX6_price 13 = .ok (.invokestatic 53, 3) := by decide +kernel
theorem dX6_price_16 : decode cX6_price 16 = .ok (.ifCond .eq 20, 3) := by decide +kernel
theorem dX6_price_19 : decode cX6_price 19 = .ok (.iconst 1, 1) := by decide +kernel
theorem dX6_price_20 : decode cX6_price 20 = .ok (.aload_n 0, 1) := by decide +kernel
theorem dX6_price_21 : decode cX6_price 21 = .ok (.iconst 1, 1) := by decide +kernel
theorem dX6_price_22 : decode cX6_price 22 = .ok (.bipush 17, 2) := by decide +kernel
theorem dX6_price_24 : decode cX6_price 24 = .ok (.iload_n 1, 1) := by decide +kernel
theorem dX6_price_25 : decode cX6_price 25 = .ok (.iadd, 1) := by decide +kernel
theorem dX6_price_26 : decode cX6_price 26 = .ok (.iload_n 2, 1) := by decide +kernel
theorem dX6_price_27 : decode cX6_price 27 = .ok (.iconst 1, 1) := by decide +kernel
theorem dX6_price_28 : decode cX6_price 28 = .ok (.isub, 1) := by decide +kernel
theorem dX6_price_29 : decode cX6_price 29 = .ok (.invokevirtual 169, 3) := by decide +kernel
theorem dX6_price_32 : decode cX6_price 32 = .ok (.iadd, 1) := by decide +kernel
theorem dX6_price_33 : decode cX6_price 33 = .ok (.goto 4, 3) := by decide +kernel
theorem dX6_price_36 : decode cX6_price 36 = .ok (.iconst (-1), 1) := by decide +kernel
theorem dX6_price_37 : decode cX6_price 37 = .ok (.ireturn, 1) := by decide +kernel
theorem dX6_steward_0 : decode cX6_steward 0 = .ok (.iload_n 1, 1) := by decide +kernel
theorem dX6_steward_1 : decode cX6_steward 1 = .ok (.i2l, 1) := by decide +kernel
theorem dX6_steward_2 : decode cX6_steward 2 = .ok (.lconst 0, 1) := by decide +kernel
theorem dX6_steward_3 : decode cX6_steward 3 = .ok (.ldc2_w 177, 3) := by decide +kernel
theorem dX6_steward_6 : decode cX6_steward 6 = .ok (.invokestatic 53, 3) := by decide +kernel
theorem dX6_steward_9 : decode cX6_steward 9 = .ok (.ifCond .eq 15, 3) := by decide +kernel
theorem dX6_steward_12 : decode cX6_steward 12 = .ok (.iload_n 2, 1) := by decide +kernel
theorem dX6_steward_13 : decode cX6_steward 13 = .ok (.i2l, 1) := by decide +kernel
theorem dX6_steward_14 : decode cX6_steward 14 = .ok (.lconst 0, 1) := by decide +kernel
theorem dX6_steward_15 : decode cX6_steward 15 = .ok (.ldc2_w 141, 3) := by decide +kernel
theorem dX6_steward_18 : decode cX6_steward 18 = .ok (.invokestatic 53, 3) := by decide +kernel
theorem dX6_steward_21 : decode cX6_steward 21 = .ok (.ifCond .ne 5, 3) := by decide +kernel
theorem dX6_steward_24 : decode cX6_steward 24 = .ok (.iconst (-1), 1) := by decide +kernel
theorem dX6_steward_25 : decode cX6_steward 25 = .ok (.ireturn, 1) := by decide +kernel
theorem dX6_steward_26 : decode cX6_steward 26 = .ok (.aload_n 0, 1) := by decide +kernel
theorem dX6_steward_27 : decode cX6_steward 27 = .ok (.getfield 7, 3) := by decide +kernel
theorem dX6_steward_30 : decode cX6_steward 30 = .ok (.bipush 20, 2) := by decide +kernel
theorem dX6_steward_32 : decode cX6_steward 32 = .ok (.iload_n 2, 1) := by decide +kernel
theorem dX6_steward_33 : decode cX6_steward 33 = .ok (.iastore, 1) := by decide +kernel
theorem dX6_steward_34 : decode cX6_steward 34 = .ok (.aload_n 0, 1) := by decide +kernel
theorem dX6_steward_35 : decode cX6_steward 35 = .ok (.iconst 1, 1) := by decide +kernel
theorem dX6_steward_36 : decode cX6_steward 36 = .ok (.bipush 19, 2) := by decide +kernel
theorem dX6_steward_38 : decode cX6_steward 38 = .ok (.iload_n 1, 1) := by decide +kernel
theorem dX6_steward_39 : decode cX6_steward 39 = .ok (.invokevirtual 169, 3) := by decide +kernel
theorem dX6_steward_42 : decode cX6_steward 42 = .ok (.ireturn, 1) := by decide +kernel
theorem dX6_leftOn_0 : decode cX6_leftOn 0 = .ok (.aload_n 0, 1) := by decide +kernel
theorem dX6_leftOn_1 : decode cX6_leftOn 1 = .ok (.getfield 7, 3) := by decide +kernel
theorem dX6_leftOn_4 : decode cX6_leftOn 4 = .ok (.iload_n 1, 1) := by decide +kernel
theorem dX6_leftOn_5 : decode cX6_leftOn 5 = .ok (.bipush 16, 2) := by decide +kernel
theorem dX6_leftOn_7 : decode cX6_leftOn 7 = .ok (.iadd, 1) := by decide +kernel
theorem dX6_leftOn_8 : decode cX6_leftOn 8 = .ok (.iaload, 1) := by decide +kernel
theorem dX6_leftOn_9 : decode cX6_leftOn 9 = .ok (.aload_n 0, 1) := by decide +kernel
theorem dX6_leftOn_10 : decode cX6_leftOn 10 = .ok (.iload_n 1, 1) := by decide +kernel
theorem dX6_leftOn_11 : decode cX6_leftOn 11 = .ok (.iload_n 2, 1) := by decide +kernel
theorem dX6_leftOn_12 : decode cX6_leftOn 12 = .ok (.invokevirtual 166, 3) := by decide +kernel
theorem dX6_leftOn_15 : decode cX6_leftOn 15 = .ok (.iadd, 1) := by decide +kernel
theorem dX6_leftOn_16 : decode cX6_leftOn 16 = .ok (.istore_n 3, 1) := by decide +kernel
theorem dX6_leftOn_17 : decode cX6_leftOn 17 = .ok (.iload_n 3, 1) := by decide +kernel
theorem dX6_leftOn_18 : decode cX6_leftOn 18 = .ok (.aload_n 0, 1) := by decide +kernel
theorem dX6_leftOn_19 : decode cX6_leftOn 19 = .ok (.getfield 7, 3) := by decide +kernel
theorem dX6_leftOn_22 : decode cX6_leftOn 22 = .ok (.iload_n 1, 1) := by decide +kernel
theorem dX6_leftOn_23 : decode cX6_leftOn 23 = .ok (.bipush 12, 2) := by decide +kernel
theorem dX6_leftOn_25 : decode cX6_leftOn 25 = .ok (.iadd, 1) := by decide +kernel
theorem dX6_leftOn_26 : decode cX6_leftOn 26 = .ok (.iaload, 1) := by decide +kernel
theorem dX6_leftOn_27 : decode cX6_leftOn 27 = .ok (.if_icmp .le 17, 3) := by decide +kernel
theorem dX6_leftOn_30 : decode cX6_leftOn 30 = .ok (.iload_n 3, 1) := by decide +kernel
theorem dX6_leftOn_31 : decode cX6_leftOn 31 = .ok (.aload_n 0, 1) := by decide +kernel
theorem dX6_leftOn_32 : decode cX6_leftOn 32 = .ok (.getfield 7, 3) := by decide +kernel
theorem dX6_leftOn_35 : decode cX6_leftOn 35 = .ok (.iload_n 1, 1) := by decide +kernel
theorem dX6_leftOn_36 : decode cX6_leftOn 36 = .ok (.bipush 12, 2) := by decide +kernel
theorem dX6_leftOn_38 : decode cX6_leftOn 38 = .ok (.iadd, 1) := by decide +kernel
theorem dX6_leftOn_39 : decode cX6_leftOn 39 = .ok (.iaload, 1) := by decide +kernel
theorem dX6_leftOn_40 : decode cX6_leftOn 40 = .ok (.isub, 1) := by decide +kernel
theorem dX6_leftOn_41 : decode cX6_leftOn 41 = .ok (.goto 4, 3) := by decide +kernel
theorem dX6_leftOn_44 : decode cX6_leftOn 44 = .ok (.iconst 0, 1) := by decide +kernel
theorem dX6_leftOn_45 : decode cX6_leftOn 45 = .ok (.ireturn, 1) := by decide +kernel
theorem dX6_keepsOn_0 : decode cX6_keepsOn 0 = .ok (.aload_n 0, 1) := by decide +kernel
theorem dX6_keepsOn_1 : decode cX6_keepsOn 1 = .ok (.getfield 7, 3) := by decide +kernel
theorem dX6_keepsOn_4 : decode cX6_keepsOn 4 = .ok (.iload_n 1, 1) := by decide +kernel
theorem dX6_keepsOn_5 : decode cX6_keepsOn 5 = .ok (.bipush 20, 2) := by decide +kernel
theorem dX6_keepsOn_7 : decode cX6_keepsOn 7 = .ok (.iadd, 1) := by decide +kernel
theorem dX6_keepsOn_8 : decode cX6_keepsOn 8 = .ok (.iaload, 1) := by decide +kernel
theorem dX6_keepsOn_9 : decode cX6_keepsOn 9 = .ok (.istore_n 3, 1) := by decide +kernel
theorem dX6_keepsOn_10 : decode cX6_keepsOn 10 = .ok (.iload_n 2, 1) := by decide +kernel
theorem dX6_keepsOn_11 : decode cX6_keepsOn 11 = .ok (.istore 4, 2) := by decide +kernel
theorem dX6_keepsOn_13 : decode cX6_keepsOn 13 = .ok (.aload_n 0, 1) := by decide +kernel
theorem dX6_keepsOn_14 : decode cX6_keepsOn 14 = .ok (.getfield 7, 3) := by decide +kernel
theorem dX6_keepsOn_17 : decode cX6_keepsOn 17 = .ok (.iload_n 1, 1) := by decide +kernel
theorem dX6_keepsOn_18 : decode cX6_keepsOn 18 = .ok (.bipush 19, 2) := by decide +kernel
theorem dX6_keepsOn_20 : decode cX6_keepsOn 20 = .ok (.iadd, 1) := by decide +kernel
theorem dX6_keepsOn_21 : decode cX6_keepsOn 21 = .ok (.iaload, 1) := by decide +kernel
theorem dX6_keepsOn_22 : decode cX6_keepsOn 22 = .ok (.tableswitch 70 1 4 #[30, 40, 48, 54], 30) := by decide +kernel
theorem dX6_keepsOn_52 : decode cX6_keepsOn 52 = .ok (.iload_n 2, 1) := by decide +kernel
theorem dX6_keepsOn_53 : decode cX6_keepsOn 53 = .ok (.iload_n 3, 1) := by decide +kernel
theorem dX6_keepsOn_54 : decode cX6_keepsOn 54 = .ok (.iconst 1, 1) := by decide +kernel
theorem dX6_keepsOn_55 : decode cX6_keepsOn 55 = .ok (.iadd, 1) := by decide +kernel
theorem dX6_keepsOn_56 : decode cX6_keepsOn 56 = .ok (.idiv, 1) := by decide +kernel
theorem dX6_keepsOn_57 : decode cX6_keepsOn 57 = .ok (.istore 4, 2) := by decide +kernel
theorem dX6_keepsOn_59 : decode cX6_keepsOn 59 = .ok (.goto 33, 3) := by decide +kernel
theorem dX6_keepsOn_62 : decode cX6_keepsOn 62 = .ok (.iconst 4, 1) := by decide +kernel
theorem dX6_keepsOn_63 : decode cX6_keepsOn 63 = .ok (.iload_n 3, 1) := by decide +kernel
theorem dX6_keepsOn_64 : decode cX6_keepsOn 64 = .ok (.imul, 1) := by decide +kernel
theorem dX6_keepsOn_65 : decode cX6_keepsOn 65 = .ok (.istore 4, 2) := by decide +kernel
theorem dX6_keepsOn_67 : decode cX6_keepsOn 67 = .ok (.goto 25, 3) := by decide +kernel
theorem dX6_keepsOn_70 : decode cX6_keepsOn 70 = .ok (.iconst 0, 1) := by decide +kernel
theorem dX6_keepsOn_71 : decode cX6_keepsOn 71 = .ok (.istore 4, 2) := by decide +kernel
theorem dX6_keepsOn_73 : decode cX6_keepsOn 73 = .ok (.goto 19, 3) := by decide +kernel
theorem dX6_keepsOn_76 : decode cX6_keepsOn 76 = .ok (.aload_n 0, 1) := by decide +kernel
theorem dX6_keepsOn_77 : decode cX6_keepsOn 77 = .ok (.getfield 7, 3) := by decide +kernel
theorem dX6_keepsOn_80 : decode cX6_keepsOn 80 = .ok (.iload_n 1, 1) := by decide +kernel
theorem dX6_keepsOn_81 : decode cX6_keepsOn 81 = .ok (.bipush 12, 2) := by decide +kernel
theorem dX6_keepsOn_83 : decode cX6_keepsOn 83 = .ok (.iadd, 1) := by decide +kernel
theorem dX6_keepsOn_84 : decode cX6_keepsOn 84 = .ok (.iaload, 1) := by decide +kernel
theorem dX6_keepsOn_85 : decode cX6_keepsOn 85 = .ok (.iload_n 3, 1) := by decide +kernel
theorem dX6_keepsOn_86 : decode cX6_keepsOn 86 = .ok (.imul, 1) := by decide +kernel
theorem dX6_keepsOn_87 : decode cX6_keepsOn 87 = .ok (.istore 4, 2) := by decide +kernel
theorem dX6_keepsOn_89 : decode cX6_keepsOn 89 = .ok (.goto 3, 3) := by decide +kernel
theorem dX6_keepsOn_92 : decode cX6_keepsOn 92 = .ok (.iload 4, 2) := by decide +kernel
theorem dX6_keepsOn_94 : decode cX6_keepsOn 94 = .ok (.iload_n 2, 1) := by decide +kernel
theorem dX6_keepsOn_95 : decode cX6_keepsOn 95 = .ok (.if_icmp .ge 8, 3) := by decide +kernel
theorem dX6_keepsOn_98 : decode cX6_keepsOn 98 = .ok (.iload 4, 2) := by decide +kernel
theorem dX6_keepsOn_100 : decode cX6_keepsOn 100 = .ok (.goto 4, 3) := by decide +kernel
theorem dX6_keepsOn_103 : decode cX6_keepsOn 103 = .ok (.iload_n 2, 1) := by decide +kernel
theorem dX6_keepsOn_104 : decode cX6_keepsOn 104 = .ok (.istore 4, 2) := by decide +kernel
theorem dX6_keepsOn_106 : decode cX6_keepsOn 106 = .ok (.iload 4, 2) := by decide +kernel
theorem dX6_keepsOn_108 : decode cX6_keepsOn 108 = .ok (.aload_n 0, 1) := by decide +kernel
theorem dX6_keepsOn_109 : decode cX6_keepsOn 109 = .ok (.iload_n 1, 1) := by decide +kernel
theorem dX6_keepsOn_110 : decode cX6_keepsOn 110 = .ok (.invokevirtual 138, 3) := by decide +kernel
theorem dX6_keepsOn_113 : decode cX6_keepsOn 113 = .ok (.if_icmp .ge 8, 3) := by decide +kernel
theorem dX6_keepsOn_116 : decode cX6_keepsOn 116 = .ok (.iload 4, 2) := by decide +kernel
theorem dX6_keepsOn_118 : decode cX6_keepsOn 118 = .ok (.goto 8, 3) := by decide +kernel
theorem dX6_keepsOn_121 : decode cX6_keepsOn 121 = .ok (.aload_n 0, 1) := by decide +kernel
theorem dX6_keepsOn_122 : decode cX6_keepsOn 122 = .ok (.iload_n 1, 1) := by decide +kernel
theorem dX6_keepsOn_123 : decode cX6_keepsOn 123 = .ok (.invokevirtual 138, 3) := by decide +kernel
theorem dX6_keepsOn_126 : decode cX6_keepsOn 126 = .ok (.ireturn, 1) := by decide +kernel
theorem dX6_rotted_0 : decode cX6_rotted 0 = .ok (.iload_n 1, 1) := by decide +kernel
theorem dX6_rotted_1 : decode cX6_rotted 1 = .ok (.ifCond .ne 7, 3) := by decide +kernel
theorem dX6_rotted_4 : decode cX6_rotted 4 = .ok (.iload_n 0, 1) := by decide +kernel
theorem dX6_rotted_5 : decode cX6_rotted 5 = .ok (.goto 8, 3) := by decide +kernel
theorem dX6_rotted_8 : decode cX6_rotted 8 = .ok (.iload_n 0, 1) := by decide +kernel
theorem dX6_rotted_9 : decode cX6_rotted 9 = .ok (.iload_n 0, 1) := by decide +kernel
theorem dX6_rotted_10 : decode cX6_rotted 10 = .ok (.iload_n 1, 1) := by decide +kernel
theorem dX6_rotted_11 : decode cX6_rotted 11 = .ok (.idiv, 1) := by decide +kernel
theorem dX6_rotted_12 : decode cX6_rotted 12 = .ok (.isub, 1) := by decide +kernel
theorem dX6_rotted_13 : decode cX6_rotted 13 = .ok (.ireturn, 1) := by decide +kernel
theorem dX6_goesOn_0 : decode cX6_goesOn 0 = .ok (.aload_n 0, 1) := by decide +kernel
theorem dX6_goesOn_1 : decode cX6_goesOn 1 = .ok (.getfield 7, 3) := by decide +kernel
theorem dX6_goesOn_4 : decode cX6_goesOn 4 = .ok (.iload_n 1, 1) := by decide +kernel
theorem dX6_goesOn_5 : decode cX6_goesOn 5 = .ok (.bipush 16, 2) := by decide +kernel
theorem dX6_goesOn_7 : decode cX6_goesOn 7 = .ok (.iadd, 1) := by decide +kernel
theorem dX6_goesOn_8 : decode cX6_goesOn 8 = .ok (.iaload, 1) := by decide +kernel
theorem dX6_goesOn_9 : decode cX6_goesOn 9 = .ok (.aload_n 0, 1) := by decide +kernel
theorem dX6_goesOn_10 : decode cX6_goesOn 10 = .ok (.iload_n 1, 1) := by decide +kernel
theorem dX6_goesOn_11 : decode cX6_goesOn 11 = .ok (.iload_n 2, 1) := by decide +kernel
theorem dX6_goesOn_12 : decode cX6_goesOn 12 = .ok (.invokevirtual 166, 3) := by decide +kernel
theorem dX6_goesOn_15 : decode cX6_goesOn 15 = .ok (.iadd, 1) := by decide +kernel
theorem dX6_goesOn_16 : decode cX6_goesOn 16 = .ok (.istore 4, 2) := by decide +kernel
theorem dX6_goesOn_18 : decode cX6_goesOn 18 = .ok (.iload 4, 2) := by decide +kernel
theorem dX6_goesOn_20 : decode cX6_goesOn 20 = .ok (.aload_n 0, 1) := by decide +kernel
theorem dX6_goesOn_21 : decode cX6_goesOn 21 = .ok (.getfield 7, 3) := by decide +kernel
theorem dX6_goesOn_24 : decode cX6_goesOn 24 = .ok (.iload_n 1, 1) := by decide +kernel
theorem dX6_goesOn_25 : decode cX6_goesOn 25 = .ok (.bipush 12, 2) := by decide +kernel
theorem dX6_goesOn_27 : decode cX6_goesOn 27 = .ok (.iadd, 1) := by decide +kernel
theorem dX6_goesOn_28 : decode cX6_goesOn 28 = .ok (.iaload, 1) := by decide +kernel
theorem dX6_goesOn_29 : decode cX6_goesOn 29 = .ok (.if_icmp .ge 18, 3) := by decide +kernel
theorem dX6_goesOn_32 : decode cX6_goesOn 32 = .ok (.aload_n 0, 1) := by decide +kernel
theorem dX6_goesOn_33 : decode cX6_goesOn 33 = .ok (.getfield 7, 3) := by decide +kernel
theorem dX6_goesOn_36 : decode cX6_goesOn 36 = .ok (.iload_n 1, 1) := by decide +kernel
theorem dX6_goesOn_37 : decode cX6_goesOn 37 = .ok (.bipush 12, 2) := by decide +kernel
theorem dX6_goesOn_39 : decode cX6_goesOn 39 = .ok (.iadd, 1) := by decide +kernel
theorem dX6_goesOn_40 : decode cX6_goesOn 40 = .ok (.iaload, 1) := by decide +kernel
theorem dX6_goesOn_41 : decode cX6_goesOn 41 = .ok (.iload 4, 2) := by decide +kernel
theorem dX6_goesOn_43 : decode cX6_goesOn 43 = .ok (.isub, 1) := by decide +kernel
theorem dX6_goesOn_44 : decode cX6_goesOn 44 = .ok (.goto 4, 3) := by decide +kernel
theorem dX6_goesOn_47 : decode cX6_goesOn 47 = .ok (.iconst 0, 1) := by decide +kernel
theorem dX6_goesOn_48 : decode cX6_goesOn 48 = .ok (.istore 5, 2) := by decide +kernel
theorem dX6_goesOn_50 : decode cX6_goesOn 50 = .ok (.aload_n 0, 1) := by decide +kernel
theorem dX6_goesOn_51 : decode cX6_goesOn 51 = .ok (.getfield 7, 3) := by decide +kernel
theorem dX6_goesOn_54 : decode cX6_goesOn 54 = .ok (.iload_n 1, 1) := by decide +kernel
theorem dX6_goesOn_55 : decode cX6_goesOn 55 = .ok (.bipush 23, 2) := by decide +kernel
theorem dX6_goesOn_57 : decode cX6_goesOn 57 = .ok (.iadd, 1) := by decide +kernel
theorem dX6_goesOn_58 : decode cX6_goesOn 58 = .ok (.dup2, 1) := by decide +kernel
theorem dX6_goesOn_59 : decode cX6_goesOn 59 = .ok (.iaload, 1) := by decide +kernel
theorem dX6_goesOn_60 : decode cX6_goesOn 60 = .ok (.aload_n 0, 1) := by decide +kernel
theorem dX6_goesOn_61 : decode cX6_goesOn 61 = .ok (.iload_n 1, 1) := by decide +kernel
theorem dX6_goesOn_62 : decode cX6_goesOn 62 = .ok (.iload_n 2, 1) := by decide +kernel
theorem dX6_goesOn_63 : decode cX6_goesOn 63 = .ok (.invokevirtual 179, 3) := by decide +kernel
theorem dX6_goesOn_66 : decode cX6_goesOn 66 = .ok (.iload_n 3, 1) := by decide +kernel
theorem dX6_goesOn_67 : decode cX6_goesOn 67 = .ok (.isub, 1) := by decide +kernel
theorem dX6_goesOn_68 : decode cX6_goesOn 68 = .ok (.aload_n 0, 1) := by decide +kernel
theorem dX6_goesOn_69 : decode cX6_goesOn 69 = .ok (.getfield 7, 3) := by decide +kernel
theorem dX6_goesOn_72 : decode cX6_goesOn 72 = .ok (.iload_n 1, 1) := by decide +kernel
theorem dX6_goesOn_73 : decode cX6_goesOn 73 = .ok (.bipush 17, 2) := by decide +kernel
theorem dX6_goesOn_75 : decode cX6_goesOn 75 = .ok (.iadd, 1) := by decide +kernel
theorem dX6_goesOn_76 : decode cX6_goesOn 76 = .ok (.iload_n 2, 1) := by decide +kernel
theorem dX6_goesOn_77 : decode cX6_goesOn 77 = .ok (.iadd, 1) := by decide +kernel
theorem dX6_goesOn_78 : decode cX6_goesOn 78 = .ok (.iaload, 1) := by decide +kernel
theorem dX6_goesOn_79 : decode cX6_goesOn 79 = .ok (.iconst 1, 1) := by decide +kernel
theorem dX6_goesOn_80 : decode cX6_goesOn 80 = .ok (.iadd, 1) := by decide +kernel
theorem dX6_goesOn_81 : decode cX6_goesOn 81 = .ok (.imul, 1) := by decide +kernel
theorem dX6_goesOn_82 : decode cX6_goesOn 82 = .ok (.iadd, 1) := by decide +kernel
theorem dX6_goesOn_83 : decode cX6_goesOn 83 = .ok (.iastore, 1) := by decide +kernel
theorem dX6_goesOn_84 : decode cX6_goesOn 84 = .ok (.aload_n 0, 1) := by decide +kernel
theorem dX6_goesOn_85 : decode cX6_goesOn 85 = .ok (.getfield 7, 3) := by decide +kernel
theorem dX6_goesOn_88 : decode cX6_goesOn 88 = .ok (.iload_n 1, 1) := by decide +kernel
theorem dX6_goesOn_89 : decode cX6_goesOn 89 = .ok (.bipush 24, 2) := by decide +kernel
theorem dX6_goesOn_91 : decode cX6_goesOn 91 = .ok (.iadd, 1) := by decide +kernel
theorem dX6_goesOn_92 : decode cX6_goesOn 92 = .ok (.dup2, 1) := by decide +kernel
theorem dX6_goesOn_93 : decode cX6_goesOn 93 = .ok (.iaload, 1) := by decide +kernel
theorem dX6_goesOn_94 : decode cX6_goesOn 94 = .ok (.iload 5, 2) := by decide +kernel
theorem dX6_goesOn_96 : decode cX6_goesOn 96 = .ok (.iadd, 1) := by decide +kernel
theorem dX6_goesOn_97 : decode cX6_goesOn 97 = .ok (.iastore, 1) := by decide +kernel
theorem dX6_goesOn_98 : decode cX6_goesOn 98 = .ok (.aload_n 0, 1) := by decide +kernel
theorem dX6_goesOn_99 : decode cX6_goesOn 99 = .ok (.getfield 7, 3) := by decide +kernel
theorem dX6_goesOn_102 : decode cX6_goesOn 102 = .ok (.iload_n 1, 1) := by decide +kernel
theorem dX6_goesOn_103 : decode cX6_goesOn 103 = .ok (.bipush 16, 2) := by decide +kernel
theorem dX6_goesOn_105 : decode cX6_goesOn 105 = .ok (.iadd, 1) := by decide +kernel
theorem dX6_goesOn_106 : decode cX6_goesOn 106 = .ok (.iload_n 3, 1) := by decide +kernel
theorem dX6_goesOn_107 : decode cX6_goesOn 107 = .ok (.aload_n 0, 1) := by decide +kernel
theorem dX6_goesOn_108 : decode cX6_goesOn 108 = .ok (.getfield 7, 3) := by decide +kernel
theorem dX6_goesOn_111 : decode cX6_goesOn 111 = .ok (.iload_n 1, 1) := by decide +kernel
theorem dX6_goesOn_112 : decode cX6_goesOn 112 = .ok (.bipush 15, 2) := by decide +kernel
theorem dX6_goesOn_114 : decode cX6_goesOn 114 = .ok (.iadd, 1) := by decide +kernel
theorem dX6_goesOn_115 : decode cX6_goesOn 115 = .ok (.iaload, 1) := by decide +kernel
theorem dX6_goesOn_116 : decode cX6_goesOn 116 = .ok (.invokestatic 182, 3) := by decide +kernel
theorem dX6_goesOn_119 : decode cX6_goesOn 119 = .ok (.iastore, 1) := by decide +kernel
theorem dX6_goesOn_120 : decode cX6_goesOn 120 = .ok (.aload_n 0, 1) := by decide +kernel
theorem dX6_goesOn_121 : decode cX6_goesOn 121 = .ok (.getfield 7, 3) := by decide +kernel
theorem dX6_goesOn_124 : decode cX6_goesOn 124 = .ok (.iload_n 1, 1) := by decide +kernel
theorem dX6_goesOn_125 : decode cX6_goesOn 125 = .ok (.bipush 22, 2) := by decide +kernel
theorem dX6_goesOn_127 : decode cX6_goesOn 127 = .ok (.iadd, 1) := by decide +kernel
theorem dX6_goesOn_128 : decode cX6_goesOn 128 = .ok (.dup2, 1) := by decide +kernel
theorem dX6_goesOn_129 : decode cX6_goesOn 129 = .ok (.iaload, 1) := by decide +kernel
theorem dX6_goesOn_130 : decode cX6_goesOn 130 = .ok (.iload_n 2, 1) := by decide +kernel
theorem dX6_goesOn_131 : decode cX6_goesOn 131 = .ok (.aload_n 0, 1) := by decide +kernel
theorem dX6_goesOn_132 : decode cX6_goesOn 132 = .ok (.getfield 7, 3) := by decide +kernel
theorem dX6_goesOn_135 : decode cX6_goesOn 135 = .ok (.iload_n 1, 1) := by decide +kernel
theorem dX6_goesOn_136 : decode cX6_goesOn 136 = .ok (.bipush 21, 2) := by decide +kernel
theorem dX6_goesOn_138 : decode cX6_goesOn 138 = .ok (.iadd, 1) := by decide +kernel
theorem dX6_goesOn_139 : decode cX6_goesOn 139 = .ok (.iaload, 1) := by decide +kernel
theorem dX6_goesOn_140 : decode cX6_goesOn 140 = .ok (.ishl, 1) := by decide +kernel
theorem dX6_goesOn_141 : decode cX6_goesOn 141 = .ok (.ior, 1) := by decide +kernel
theorem dX6_goesOn_142 : decode cX6_goesOn 142 = .ok (.iastore, 1) := by decide +kernel
theorem dX6_goesOn_143 : decode cX6_goesOn 143 = .ok (.aload_n 0, 1) := by decide +kernel
theorem dX6_goesOn_144 : decode cX6_goesOn 144 = .ok (.getfield 7, 3) := by decide +kernel
theorem dX6_goesOn_147 : decode cX6_goesOn 147 = .ok (.iload_n 1, 1) := by decide +kernel
theorem dX6_goesOn_148 : decode cX6_goesOn 148 = .ok (.bipush 21, 2) := by decide +kernel
theorem dX6_goesOn_150 : decode cX6_goesOn 150 = .ok (.iadd, 1) := by decide +kernel
theorem dX6_goesOn_151 : decode cX6_goesOn 151 = .ok (.dup2, 1) := by decide +kernel
theorem dX6_goesOn_152 : decode cX6_goesOn 152 = .ok (.iaload, 1) := by decide +kernel
theorem dX6_goesOn_153 : decode cX6_goesOn 153 = .ok (.iconst 1, 1) := by decide +kernel
theorem dX6_goesOn_154 : decode cX6_goesOn 154 = .ok (.iadd, 1) := by decide +kernel
theorem dX6_goesOn_155 : decode cX6_goesOn 155 = .ok (.iastore, 1) := by decide +kernel
theorem dX6_goesOn_156 : decode cX6_goesOn 156 = .ok (.iload 5, 2) := by decide +kernel
theorem dX6_goesOn_158 : decode cX6_goesOn 158 = .ok (.ireturn, 1) := by decide +kernel
theorem dX6_goes_0 : decode cX6_goes 0 = .ok (.iload_n 1, 1) := by decide +kernel
theorem dX6_goes_1 : decode cX6_goes 1 = .ok (.invokestatic 163, 3) := by decide +kernel
theorem dX6_goes_4 : decode cX6_goes 4 = .ok (.ifCond .eq 28, 3) := by decide +kernel
theorem dX6_goes_7 : decode cX6_goes 7 = .ok (.iload_n 2, 1) := by decide +kernel
theorem dX6_goes_8 : decode cX6_goes 8 = .ok (.i2l, 1) := by decide +kernel
theorem dX6_goes_9 : decode cX6_goes 9 = .ok (.lconst 0, 1) := by decide +kernel
theorem dX6_goes_10 : decode cX6_goes 10 = .ok (.aload_n 0, 1) := by decide +kernel
theorem dX6_goes_11 : decode cX6_goes 11 = .ok (.iconst 0, 1) := by decide +kernel
theorem dX6_goes_12 : decode cX6_goes 12 = .ok (.invokevirtual 138, 3) := by decide +kernel
theorem dX6_goes_15 : decode cX6_goes 15 = .ok (.i2l, 1) := by decide +kernel
theorem dX6_goes_16 : decode cX6_goes 16 = .ok (.invokestatic 53, 3) := by decide +kernel
theorem dX6_goes_19 : decode cX6_goes 19 = .ok (.ifCond .eq 13, 3) := by decide +kernel
theorem dX6_goes_22 : decode cX6_goes 22 = .ok (.iload_n 2, 1) := by decide +kernel
theorem dX6_goes_23 : decode cX6_goes 23 = .ok (.aload_n 0, 1) := by decide +kernel
theorem dX6_goes_24 : decode cX6_goes 24 = .ok (.iconst 0, 1) := by decide +kernel
theorem dX6_goes_25 : decode cX6_goes 25 = .ok (.iload_n 1, 1) := by decide +kernel
theorem dX6_goes_26 : decode cX6_goes 26 = .ok (.invokevirtual 179, 3) := by decide +kernel
theorem dX6_goes_29 : decode cX6_goes 29 = .ok (.if_icmp .le 5, 3) := by decide +kernel
theorem dX6_goes_32 : decode cX6_goes 32 = .ok (.iconst (-1), 1) := by decide +kernel
theorem dX6_goes_33 : decode cX6_goes 33 = .ok (.ireturn, 1) := by decide +kernel
theorem dX6_goes_34 : decode cX6_goes 34 = .ok (.aload_n 0, 1) := by decide +kernel
theorem dX6_goes_35 : decode cX6_goes 35 = .ok (.getfield 7, 3) := by decide +kernel
theorem dX6_goes_38 : decode cX6_goes 38 = .ok (.bipush 21, 2) := by decide +kernel
theorem dX6_goes_40 : decode cX6_goes 40 = .ok (.iaload, 1) := by decide +kernel
theorem dX6_goes_41 : decode cX6_goes 41 = .ok (.bipush 8, 2) := by decide +kernel
theorem dX6_goes_43 : decode cX6_goes 43 = .ok (.if_icmp .ne 8, 3) := by decide +kernel
theorem dX6_goes_46 : decode cX6_goes 46 = .ok (.bipush (-3), 2) := by decide +kernel
theorem dX6_goes_48 : decode cX6_goes 48 = .ok (.goto 10, 3) := by decide +kernel
theorem dX6_goes_51 : decode cX6_goes 51 = .ok (.aload_n 0, 1) := by decide +kernel
theorem dX6_goes_52 : decode cX6_goes 52 = .ok (.iconst 0, 1) := by decide +kernel
theorem dX6_goes_53 : decode cX6_goes 53 = .ok (.iload_n 1, 1) := by decide +kernel
theorem dX6_goes_54 : decode cX6_goes 54 = .ok (.iload_n 2, 1) := by decide +kernel
theorem dX6_goes_55 : decode cX6_goes 55 = .ok (.invokevirtual 185, 3) := by decide +kernel
theorem dX6_goes_58 : decode cX6_goes 58 = .ok (.ireturn, 1) := by decide +kernel
theorem dX6_go_0 : decode cX6_go 0 = .ok (.aload_n 0, 1) := by decide +kernel
theorem dX6_go_1 : decode cX6_go 1 = .ok (.iload_n 1, 1) := by decide +kernel
theorem dX6_go_2 : decode cX6_go 2 = .ok (.iload_n 2, 1) := by decide +kernel
theorem dX6_go_3 : decode cX6_go 3 = .ok (.invokevirtual 189, 3) := by decide +kernel
theorem dX6_go_6 : decode cX6_go 6 = .ok (.ireturn, 1) := by decide +kernel
theorem dX6_year_0 : decode cX6_year 0 = .ok (.iload_n 1, 1) := by decide +kernel
theorem dX6_year_1 : decode cX6_year 1 = .ok (.invokestatic 163, 3) := by decide +kernel
theorem dX6_year_4 : decode cX6_year 4 = .ok (.ifCond .ne 5, 3) := by decide +kernel
theorem dX6_year_7 : decode cX6_year 7 = .ok (.iconst (-1), 1) := by decide +kernel
theorem dX6_year_8 : decode cX6_year 8 = .ok (.ireturn, 1) := by decide +kernel
theorem dX6_year_9 : decode cX6_year 9 = .ok (.aload_n 0, 1) := by decide +kernel
theorem dX6_year_10 : decode cX6_year 10 = .ok (.getfield 7, 3) := by decide +kernel
theorem dX6_year_13 : decode cX6_year 13 = .ok (.bipush 21, 2) := by decide +kernel
theorem dX6_year_15 : decode cX6_year 15 = .ok (.iaload, 1) := by decide +kernel
theorem dX6_year_16 : decode cX6_year 16 = .ok (.bipush 8, 2) := by decide +kernel
theorem dX6_year_18 : decode cX6_year 18 = .ok (.if_icmp .ne 8, 3) := by decide +kernel
theorem dX6_year_21 : decode cX6_year 21 = .ok (.bipush (-3), 2) := by decide +kernel
theorem dX6_year_23 : decode cX6_year 23 = .ok (.goto 20, 3) := by decide +kernel
theorem dX6_year_26 : decode cX6_year 26 = .ok (.aload_n 0, 1) := by decide +kernel
theorem dX6_year_27 : decode cX6_year 27 = .ok (.iconst 0, 1) := by decide +kernel
theorem dX6_year_28 : decode cX6_year 28 = .ok (.iload_n 1, 1) := by decide +kernel
theorem dX6_year_29 : decode cX6_year 29 = .ok (.aload_n 0, 1) := by decide +kernel
theorem dX6_year_30 : decode cX6_year 30 = .ok (.iconst 0, 1) := by decide +kernel
theorem dX6_year_31 : decode cX6_year 31 = .ok (.aload_n 0, 1) := by decide +kernel
theorem dX6_year_32 : decode cX6_year 32 = .ok (.iconst 0, 1) := by decide +kernel
theorem dX6_year_33 : decode cX6_year 33 = .ok (.iload_n 1, 1) := by decide +kernel
theorem dX6_year_34 : decode cX6_year 34 = .ok (.invokevirtual 179, 3) := by decide +kernel
theorem dX6_year_37 : decode cX6_year 37 = .ok (.invokevirtual 192, 3) := by decide +kernel
theorem dX6_year_40 : decode cX6_year 40 = .ok (.invokevirtual 185, 3) := by decide +kernel
theorem dX6_year_43 : decode cX6_year 43 = .ok (.ireturn, 1) := by decide +kernel
theorem dX6_keeps_0 : decode cX6_keeps 0 = .ok (.iload_n 1, 1) := by decide +kernel
theorem dX6_keeps_1 : decode cX6_keeps 1 = .ok (.i2l, 1) := by decide +kernel
theorem dX6_keeps_2 : decode cX6_keeps 2 = .ok (.lconst 0, 1) := by decide +kernel
theorem dX6_keeps_3 : decode cX6_keeps 3 = .ok (.ldc2_w 195, 3) := by decide +kernel
theorem dX6_keeps_6 : decode cX6_keeps 6 = .ok (.invokestatic 53, 3) := by decide +kernel
theorem dX6_keeps_9 : decode cX6_keeps 9 = .ok (.ifCond .eq 12, 3) := by decide +kernel
theorem dX6_keeps_12 : decode cX6_keeps 12 = .ok (.aload_n 0, 1) := by decide +kernel
theorem dX6_keeps_13 : decode cX6_keeps 13 = .ok (.iconst 0, 1) := by decide +kernel
theorem dX6_keeps_14 : decode cX6_keeps 14 = .ok (.iload_n 1, 1) := by decide +kernel
theorem dX6_keeps_15 : decode cX6_keeps 15 = .ok (.invokevirtual 192, 3) := by decide +kernel
theorem dX6_keeps_18 : decode cX6_keeps 18 = .ok (.goto 4, 3) := by decide +kernel
theorem dX6_keeps_21 : decode cX6_keeps 21 = .ok (.iconst (-1), 1) := by decide +kernel
theorem dX6_keeps_22 : decode cX6_keeps 22 = .ok (.ireturn, 1) := by decide +kernel
theorem dX6_copies_0 : decode cX6_copies 0 = .ok (.iconst 0, 1) := by decide +kernel
theorem dX6_copies_1 : decode cX6_copies 1 = .ok (.istore_n 3, 1) := by decide +kernel
theorem dX6_copies_2 : decode cX6_copies 2 = .ok (.iload_n 3, 1) := by decide +kernel
theorem dX6_copies_3 : decode cX6_copies 3 = .ok (.bipush 25, 2) := by decide +kernel
theorem dX6_copies_5 : decode cX6_copies 5 = .ok (.if_icmp .ge 25, 3) := by decide +kernel
theorem dX6_copies_8 : decode cX6_copies 8 = .ok (.aload_n 0, 1) := by decide +kernel
theorem dX6_copies_9 : decode cX6_copies 9 = .ok (.getfield 7, 3) := by decide +kernel
theorem dX6_copies_12 : decode cX6_copies 12 = .ok (.iload_n 2, 1) := by decide +kernel
theorem dX6_copies_13 : decode cX6_copies 13 = .ok (.iload_n 3, 1) := by decide +kernel
theorem dX6_copies_14 : decode cX6_copies 14 = .ok (.iadd, 1) := by decide +kernel
theorem dX6_copies_15 : decode cX6_copies 15 = .ok (.aload_n 0, 1) := by decide +kernel
theorem dX6_copies_16 : decode cX6_copies 16 = .ok (.getfield 7, 3) := by decide +kernel
theorem dX6_copies_19 : decode cX6_copies 19 = .ok (.iload_n 1, 1) := by decide +kernel
theorem dX6_copies_20 : decode cX6_copies 20 = .ok (.iload_n 3, 1) := by decide +kernel
theorem dX6_copies_21 : decode cX6_copies 21 = .ok (.iadd, 1) := by decide +kernel
theorem dX6_copies_22 : decode cX6_copies 22 = .ok (.iaload, 1) := by decide +kernel
theorem dX6_copies_23 : decode cX6_copies 23 = .ok (.iastore, 1) := by decide +kernel
theorem dX6_copies_24 : decode cX6_copies 24 = .ok (.iinc 3 1, 3) := by decide +kernel
theorem dX6_copies_27 : decode cX6_copies 27 = .ok (.goto (-25), 3) := by decide +kernel
theorem dX6_copies_30 : decode cX6_copies 30 = .ok (.return_, 1) := by decide +kernel
theorem dX6_triesOne_0 : decode cX6_triesOne 0 = .ok (.aload_n 0, 1) := by decide +kernel
theorem dX6_triesOne_1 : decode cX6_triesOne 1 = .ok (.getfield 7, 3) := by decide +kernel
theorem dX6_triesOne_4 : decode cX6_triesOne 4 = .ok (.bipush 121, 2) := by decide +kernel
theorem dX6_triesOne_6 : decode cX6_triesOne 6 = .ok (.iaload, 1) := by decide +kernel
theorem dX6_triesOne_7 : decode cX6_triesOne 7 = .ok (.bipush 8, 2) := by decide +kernel
theorem dX6_triesOne_9 : decode cX6_triesOne 9 = .ok (.if_icmp .ne 5, 3) := by decide +kernel
theorem dX6_triesOne_12 : decode cX6_triesOne 12 = .ok (.iconst 0, 1) := by decide +kernel
theorem dX6_triesOne_13 : decode cX6_triesOne 13 = .ok (.ireturn, 1) := by decide +kernel
theorem dX6_triesOne_14 : decode cX6_triesOne 14 = .ok (.aload_n 0, 1) := by decide +kernel
theorem dX6_triesOne_15 : decode cX6_triesOne 15 = .ok (.getfield 13, 3) := by decide +kernel
theorem dX6_triesOne_18 : decode cX6_triesOne 18 = .ok (.iload_n 1, 1) := by decide +kernel
theorem dX6_triesOne_19 : decode cX6_triesOne 19 = .ok (.iaload, 1) := by decide +kernel
theorem dX6_triesOne_20 : decode cX6_triesOne 20 = .ok (.aload_n 0, 1) := by decide +kernel
theorem dX6_triesOne_21 : decode cX6_triesOne 21 = .ok (.getfield 7, 3) := by decide +kernel
theorem dX6_triesOne_24 : decode cX6_triesOne 24 = .ok (.bipush 121, 2) := by decide +kernel
theorem dX6_triesOne_26 : decode cX6_triesOne 26 = .ok (.iaload, 1) := by decide +kernel
theorem dX6_triesOne_27 : decode cX6_triesOne 27 = .ok (.ishr, 1) := by decide +kernel
theorem dX6_triesOne_28 : decode cX6_triesOne 28 = .ok (.iconst 1, 1) := by decide +kernel
theorem dX6_triesOne_29 : decode cX6_triesOne 29 = .ok (.iand, 1) := by decide +kernel
theorem dX6_triesOne_30 : decode cX6_triesOne 30 = .ok (.istore_n 2, 1) := by decide +kernel
theorem dX6_triesOne_31 : decode cX6_triesOne 31 = .ok (.aload_n 0, 1) := by decide +kernel
theorem dX6_triesOne_32 : decode cX6_triesOne 32 = .ok (.bipush 100, 2) := by decide +kernel
theorem dX6_triesOne_34 : decode cX6_triesOne 34 = .ok (.iload_n 2, 1) := by decide +kernel
theorem dX6_triesOne_35 : decode cX6_triesOne 35 = .ok (.aload_n 0, 1) := by decide +kernel
theorem dX6_triesOne_36 : decode cX6_triesOne 36 = .ok (.bipush 100, 2) := by decide +kernel
theorem dX6_triesOne_38 : decode cX6_triesOne 38 = .ok (.aload_n 0, 1) := by decide +kernel
theorem dX6_triesOne_39 : decode cX6_triesOne 39 = .ok (.bipush 100, 2) := by decide +kernel
theorem dX6_triesOne_41 : decode cX6_triesOne 41 = .ok (.iload_n 2, 1) := by decide +kernel
theorem dX6_triesOne_42 : decode cX6_triesOne 42 = .ok (.invokevirtual 179, 3) := by decide +kernel
theorem dX6_triesOne_45 : decode cX6_triesOne 45 = .ok (.invokevirtual 192, 3) := by decide +kernel
theorem dX6_triesOne_48 : decode cX6_triesOne 48 = .ok (.invokevirtual 185, 3) := by decide +kernel
theorem dX6_triesOne_51 : decode cX6_triesOne 51 = .ok (.ireturn, 1) := by decide +kernel
theorem dX6_ahead_0 : decode cX6_ahead 0 = .ok (.aload_n 0, 1) := by decide +kernel
theorem dX6_ahead_1 : decode cX6_ahead 1 = .ok (.iload_n 1, 1) := by decide +kernel
theorem dX6_ahead_2 : decode cX6_ahead 2 = .ok (.invokevirtual 153, 3) := by decide +kernel
theorem dX6_ahead_5 : decode cX6_ahead 5 = .ok (.ifCond .eq 27, 3) := by decide +kernel
theorem dX6_ahead_8 : decode cX6_ahead 8 = .ok (.iload_n 2, 1) := by decide +kernel
theorem dX6_ahead_9 : decode cX6_ahead 9 = .ok (.i2l, 1) := by decide +kernel
theorem dX6_ahead_10 : decode cX6_ahead 10 = .ok (.lconst 0, 1) := by decide +kernel
theorem dX6_ahead_11 : decode cX6_ahead 11 = .ok (.ldc2_w 197, 3) := by decide +kernel
theorem dX6_ahead_14 : decode cX6_ahead 14 = .ok (.invokestatic 53, 3) := by decide +kernel
theorem dX6_ahead_17 : decode cX6_ahead 17 = .ok (.ifCond .eq 15, 3) := by decide +kernel
theorem dX6_ahead_20 : decode cX6_ahead 20 = .ok (.iload_n 3, 1) := by decide +kernel
theorem dX6_ahead_21 : decode cX6_ahead 21 = .ok (.i2l, 1) := by decide +kernel
theorem dX6_ahead_22 : decode cX6_ahead 22 = .ok (.lconst 0, 1) := by decide +kernel
theorem dX6_ahead_23 : decode cX6_ahead 23 = .ok (.ldc2_w 199, 3) := by decide +kernel
theorem dX6_ahead_26 : decode cX6_ahead 26 = .ok (.invokestatic 53, 3) := by decide +kernel
theorem dX6_ahead_29 : decode cX6_ahead 29 = .ok (.ifCond .ne 5, 3) := by decide +kernel
theorem dX6_ahead_32 : decode cX6_ahead 32 = .ok (.iconst (-1), 1) := by decide +kernel
theorem dX6_ahead_33 : decode cX6_ahead 33 = .ok (.ireturn, 1) := by decide +kernel
theorem dX6_ahead_34 : decode cX6_ahead 34 = .ok (.aload_n 0, 1) := by decide +kernel
theorem dX6_ahead_35 : decode cX6_ahead 35 = .ok (.iconst 0, 1) := by decide +kernel
theorem dX6_ahead_36 : decode cX6_ahead 36 = .ok (.bipush 100, 2) := by decide +kernel
theorem dX6_ahead_38 : decode cX6_ahead 38 = .ok (.invokevirtual 201, 3) := by decide +kernel
theorem dX6_ahead_41 : decode cX6_ahead 41 = .ok (.iconst 0, 1) := by decide +kernel
theorem dX6_ahead_42 : decode cX6_ahead 42 = .ok (.istore 4, 2) := by decide +kernel
theorem dX6_ahead_44 : decode cX6_ahead 44 = .ok (.iload 4, 2) := by decide +kernel
theorem dX6_ahead_46 : decode cX6_ahead 46 = .ok (.iload_n 2, 1) := by decide +kernel
theorem dX6_ahead_47 : decode cX6_ahead 47 = .ok (.if_icmp .ge 15, 3) := by decide +kernel
theorem dX6_ahead_50 : decode cX6_ahead 50 = .ok (.aload_n 0, 1) := by decide +kernel
theorem dX6_ahead_51 : decode cX6_ahead 51 = .ok (.iload_n 1, 1) := by decide +kernel
theorem dX6_ahead_52 : decode cX6_ahead 52 = .ok (.invokevirtual 205, 3) := by decide +kernel
theorem dX6_ahead_55 : decode cX6_ahead 55 = .ok (.pop, 1) := by decide +kernel
theorem dX6_ahead_56 : decode cX6_ahead 56 = .ok (.iinc 4 1, 3) := by decide +kernel
theorem dX6_ahead_59 : decode cX6_ahead 59 = .ok (.goto (-15), 3) := by decide +kernel
theorem dX6_ahead_62 : decode cX6_ahead 62 = .ok (.iload_n 3, 1) := by decide +kernel
theorem dX6_ahead_63 : decode cX6_ahead 63 = .ok (.ifCond .ne 13, 3) := by decide +kernel
theorem dX6_ahead_66 : decode cX6_ahead 66 = .ok (.aload_n 0, 1) := by decide +kernel
theorem dX6_ahead_67 : decode cX6_ahead 67 = .ok (.getfield 7, 3) := by decide +kernel
theorem dX6_ahead_70 : decode cX6_ahead 70 = .ok (.bipush 116, 2) := by decide +kernel
theorem dX6_ahead_72 : decode cX6_ahead 72 = .ok (.iaload, 1) := by decide +kernel
theorem dX6_ahead_73 : decode cX6_ahead 73 = .ok (.goto 41, 3) := by decide +kernel
theorem dX6_ahead_76 : decode cX6_ahead 76 = .ok (.iload_n 3, 1) := by decide +kernel
theorem dX6_ahead_77 : decode cX6_ahead 77 = .ok (.iconst 1, 1) := by decide +kernel
theorem dX6_ahead_78 : decode cX6_ahead 78 = .ok (.if_icmp .ne 21, 3) := by decide +kernel
theorem dX6_ahead_81 : decode cX6_ahead 81 = .ok (.aload_n 0, 1) := by decide +kernel
theorem dX6_ahead_82 : decode cX6_ahead 82 = .ok (.getfield 7, 3) := by decide +kernel
theorem dX6_ahead_85 : decode cX6_ahead 85 = .ok (.bipush 123, 2) := by decide +kernel
theorem dX6_ahead_87 : decode cX6_ahead 87 = .ok (.iaload, 1) := by decide +kernel
theorem dX6_ahead_88 : decode cX6_ahead 88 = .ok (.aload_n 0, 1) := by decide +kernel
theorem dX6_ahead_89 : decode cX6_ahead 89 = .ok (.getfield 7, 3) := by decide +kernel
theorem dX6_ahead_92 : decode cX6_ahead 92 = .ok (.bipush 23, 2) := by decide +kernel
theorem dX6_ahead_94 : decode cX6_ahead 94 = .ok (.iaload, 1) := by decide +kernel
theorem dX6_ahead_95 : decode cX6_ahead 95 = .ok (.isub, 1) := by decide +kernel
theorem dX6_ahead_96 : decode cX6_ahead 96 = .ok (.goto 18, 3) := by decide +kernel
theorem dX6_ahead_99 : decode cX6_ahead 99 = .ok (.aload_n 0, 1) := by decide +kernel
theorem dX6_ahead_100 : decode cX6_ahead 100 = .ok (.getfield 7, 3) := by decide +kernel
theorem dX6_ahead_103 : decode cX6_ahead 103 = .ok (.bipush 124, 2) := by decide +kernel
theorem dX6_ahead_105 : decode cX6_ahead 105 = .ok (.iaload, 1) := by decide +kernel
theorem dX6_ahead_106 : decode cX6_ahead 106 = .ok (.aload_n 0, 1) := by decide +kernel
theorem dX6_ahead_107 : decode cX6_ahead 107 = .ok (.getfield 7, 3) := by decide +kernel
theorem dX6_ahead_110 : decode cX6_ahead 110 = .ok (.bipush 24, 2) := by decide +kernel
theorem dX6_ahead_112 : decode cX6_ahead 112 = .ok (.iaload, 1) := by decide +kernel
theorem dX6_ahead_113 : decode cX6_ahead 113 = .ok (.isub, 1) := by decide +kernel
theorem dX6_ahead_114 : decode cX6_ahead 114 = .ok (.ireturn, 1) := by decide +kernel
theorem dX6_starvesIn_0 : decode cX6_starvesIn 0 = .ok (.aload_n 0, 1) := by decide +kernel
theorem dX6_starvesIn_1 : decode cX6_starvesIn 1 = .ok (.getfield 7, 3) := by decide +kernel
theorem dX6_starvesIn_4 : decode cX6_starvesIn 4 = .ok (.bipush 121, 2) := by decide +kernel
theorem dX6_starvesIn_6 : decode cX6_starvesIn 6 = .ok (.iaload, 1) := by decide +kernel
theorem dX6_starvesIn_7 : decode cX6_starvesIn 7 = .ok (.bipush 8, 2) := by decide +kernel
theorem dX6_starvesIn_9 : decode cX6_starvesIn 9 = .ok (.if_icmp .ge 24, 3) := by decide +kernel
theorem dX6_starvesIn_12 : decode cX6_starvesIn 12 = .ok (.aload_n 0, 1) := by decide +kernel
theorem dX6_starvesIn_13 : decode cX6_starvesIn 13 = .ok (.getfield 7, 3) := by decide +kernel
theorem dX6_starvesIn_16 : decode cX6_starvesIn 16 = .ok (.bipush 121, 2) := by decide +kernel
theorem dX6_starvesIn_18 : decode cX6_starvesIn 18 = .ok (.iaload, 1) := by decide +kernel
theorem dX6_starvesIn_19 : decode cX6_starvesIn 19 = .ok (.istore_n 2, 1) := by decide +kernel
theorem dX6_starvesIn_20 : decode cX6_starvesIn 20 = .ok (.aload_n 0, 1) := by decide +kernel
theorem dX6_starvesIn_21 : decode cX6_starvesIn 21 = .ok (.iload_n 1, 1) := by decide +kernel
theorem dX6_starvesIn_22 : decode cX6_starvesIn 22 = .ok (.invokevirtual 205, 3) := by decide +kernel
theorem dX6_starvesIn_25 : decode cX6_starvesIn 25 = .ok (.ifCond .le 5, 3) := by decide +kernel
theorem dX6_starvesIn_28 : decode cX6_starvesIn 28 = .ok (.iload_n 2, 1) := by decide +kernel
theorem dX6_starvesIn_29 : decode cX6_starvesIn 29 = .ok (.ireturn, 1) := by decide +kernel
theorem dX6_starvesIn_30 : decode cX6_starvesIn 30 = .ok (.goto (-30), 3) := by decide +kernel
theorem dX6_starvesIn_33 : decode cX6_starvesIn 33 = .ok (.bipush (-4), 2) := by decide +kernel
theorem dX6_starvesIn_35 : decode cX6_starvesIn 35 = .ok (.ireturn, 1) := by decide +kernel
theorem dX6_when_0 : decode cX6_when 0 = .ok (.aload_n 0, 1) := by decide +kernel
theorem dX6_when_1 : decode cX6_when 1 = .ok (.iload_n 1, 1) := by decide +kernel
theorem dX6_when_2 : decode cX6_when 2 = .ok (.invokevirtual 153, 3) := by decide +kernel
theorem dX6_when_5 : decode cX6_when 5 = .ok (.ifCond .ne 5, 3) := by decide +kernel
theorem dX6_when_8 : decode cX6_when 8 = .ok (.iconst (-1), 1) := by decide +kernel
theorem dX6_when_9 : decode cX6_when 9 = .ok (.ireturn, 1) := by decide +kernel
theorem dX6_when_10 : decode cX6_when 10 = .ok (.aload_n 0, 1) := by decide +kernel
theorem dX6_when_11 : decode cX6_when 11 = .ok (.iconst 0, 1) := by decide +kernel
theorem dX6_when_12 : decode cX6_when 12 = .ok (.bipush 100, 2) := by decide +kernel
theorem dX6_when_14 : decode cX6_when 14 = .ok (.invokevirtual 201, 3) := by decide +kernel
theorem dX6_when_17 : decode cX6_when 17 = .ok (.aload_n 0, 1) := by decide +kernel
theorem dX6_when_18 : decode cX6_when 18 = .ok (.iload_n 1, 1) := by decide +kernel
theorem dX6_when_19 : decode cX6_when 19 = .ok (.invokevirtual 208, 3) := by decide +kernel
theorem dX6_when_22 : decode cX6_when 22 = .ok (.ireturn, 1) := by decide +kernel
theorem dX6_canNow_0 : decode cX6_canNow 0 = .ok (.iconst 0, 1) := by decide +kernel
theorem dX6_canNow_1 : decode cX6_canNow 1 = .ok (.istore_n 1, 1) := by decide +kernel
theorem dX6_canNow_2 : decode cX6_canNow 2 = .ok (.iconst 0, 1) := by decide +kernel
theorem dX6_canNow_3 : decode cX6_canNow 3 = .ok (.istore_n 2, 1) := by decide +kernel
theorem dX6_canNow_4 : decode cX6_canNow 4 = .ok (.iload_n 2, 1) := by decide +kernel
theorem dX6_canNow_5 : decode cX6_canNow 5 = .ok (.aload_n 0, 1) := by decide +kernel
theorem dX6_canNow_6 : decode cX6_canNow 6 = .ok (.getfield 132, 3) := by decide +kernel
theorem dX6_canNow_9 : decode cX6_canNow 9 = .ok (.if_icmp .ge 27, 3) := by decide +kernel
theorem dX6_canNow_12 : decode cX6_canNow 12 = .ok (.iload_n 1, 1) := by decide +kernel
theorem dX6_canNow_13 : decode cX6_canNow 13 = .ok (.aload_n 0, 1) := by decide +kernel
theorem dX6_canNow_14 : decode cX6_canNow 14 = .ok (.iload_n 2, 1) := by decide +kernel
theorem dX6_canNow_15 : decode cX6_canNow 15 = .ok (.invokevirtual 160, 3) := by decide +kernel
theorem dX6_canNow_18 : decode cX6_canNow 18 = .ok (.ifCond .eq 9, 3) := by decide +kernel
theorem dX6_canNow_21 : decode cX6_canNow 21 = .ok (.iconst 1, 1) := by decide +kernel
theorem dX6_canNow_22 : decode cX6_canNow 22 = .ok (.iload_n 2, 1) := by decide +kernel
theorem dX6_canNow_23 : decode cX6_canNow 23 = .ok (.ishl, 1) := by decide +kernel
theorem dX6_canNow_24 : decode cX6_canNow 24 = .ok (.goto 4, 3) := by decide +kernel
theorem dX6_canNow_27 : decode cX6_canNow 27 = .ok (.iconst 0, 1) := by decide +kernel
theorem dX6_canNow_28 : decode cX6_canNow 28 = .ok (.ior, 1) := by decide +kernel
theorem dX6_canNow_29 : decode cX6_canNow 29 = .ok (.istore_n 1, 1) := by decide +kernel
theorem dX6_canNow_30 : decode cX6_canNow 30 = .ok (.iinc 2 1, 3) := by decide +kernel
theorem dX6_canNow_33 : decode cX6_canNow 33 = .ok (.goto (-29), 3) := by decide +kernel
theorem dX6_canNow_36 : decode cX6_canNow 36 = .ok (.iload_n 1, 1) := by decide +kernel
theorem dX6_canNow_37 : decode cX6_canNow 37 = .ok (.ireturn, 1) := by decide +kernel
theorem dX6_can_0 : decode cX6_can 0 = .ok (.aload_n 0, 1) := by decide +kernel
theorem dX6_can_1 : decode cX6_can 1 = .ok (.invokevirtual 211, 3) := by decide +kernel
theorem dX6_can_4 : decode cX6_can 4 = .ok (.ireturn, 1) := by decide +kernel
theorem dX6_lowest_0 : decode cX6_lowest 0 = .ok (.lload_n 0, 1) := by decide +kernel
theorem dX6_lowest_1 : decode cX6_lowest 1 = .ok (.lconst 0, 1) := by decide +kernel
theorem dX6_lowest_2 : decode cX6_lowest 2 = .ok (.lcmp, 1) := by decide +kernel
theorem dX6_lowest_3 : decode cX6_lowest 3 = .ok (.ifCond .ge 8, 3) := by decide +kernel
theorem dX6_lowest_6 : decode cX6_lowest 6 = .ok (.lload_n 0, 1) := by decide +kernel
theorem dX6_lowest_7 : decode cX6_lowest 7 = .ok (.lneg, 1) := by decide +kernel
theorem dX6_lowest_8 : decode cX6_lowest 8 = .ok (.goto 4, 3) := by decide +kernel
theorem dX6_lowest_11 : decode cX6_lowest 11 = .ok (.lload_n 0, 1) := by decide +kernel
theorem dX6_lowest_12 : decode cX6_lowest 12 = .ok (.lstore 5, 2) := by decide +kernel
theorem dX6_lowest_14 : decode cX6_lowest 14 = .ok (.lload_n 2, 1) := by decide +kernel
theorem dX6_lowest_15 : decode cX6_lowest 15 = .ok (.lstore 7, 2) := by decide +kernel
theorem dX6_lowest_17 : decode cX6_lowest 17 = .ok (.lload 7, 2) := by decide +kernel
theorem dX6_lowest_19 : decode cX6_lowest 19 = .ok (.lconst 0, 1) := by decide +kernel
theorem dX6_lowest_20 : decode cX6_lowest 20 = .ok (.lcmp, 1) := by decide +kernel
theorem dX6_lowest_21 : decode cX6_lowest 21 = .ok (.ifCond .eq 21, 3) := by decide +kernel
theorem dX6_lowest_24 : decode cX6_lowest 24 = .ok (.lload 5, 2) := by decide +kernel
theorem dX6_lowest_26 : decode cX6_lowest 26 = .ok (.lload 7, 2) := by decide +kernel
theorem dX6_lowest_28 : decode cX6_lowest 28 = .ok (.lrem, 1) := by decide +kernel
theorem dX6_lowest_29 : decode cX6_lowest 29 = .ok (.lstore 9, 2) := by decide +kernel
theorem dX6_lowest_31 : decode cX6_lowest 31 = .ok (.lload 7, 2) := by decide +kernel
theorem dX6_lowest_33 : decode cX6_lowest 33 = .ok (.lstore 5, 2) := by decide +kernel
theorem dX6_lowest_35 : decode cX6_lowest 35 = .ok (.lload 9, 2) := by decide +kernel
theorem dX6_lowest_37 : decode cX6_lowest 37 = .ok (.lstore 7, 2) := by decide +kernel
theorem dX6_lowest_39 : decode cX6_lowest 39 = .ok (.goto (-22), 3) := by decide +kernel
theorem dX6_lowest_42 : decode cX6_lowest 42 = .ok (.iload 4, 2) := by decide +kernel
theorem dX6_lowest_44 : decode cX6_lowest 44 = .ok (.ifCond .ne 7, 3) := by decide +kernel
theorem dX6_lowest_47 : decode cX6_lowest 47 = .ok (.lload_n 0, 1) := by decide +kernel
theorem dX6_lowest_48 : decode cX6_lowest 48 = .ok (.goto 4, 3) := by decide +kernel
theorem dX6_lowest_51 : decode cX6_lowest 51 = .ok (.lload_n 2, 1) := by decide +kernel
theorem dX6_lowest_52 : decode cX6_lowest 52 = .ok (.lload 5, 2) := by decide +kernel
theorem dX6_lowest_54 : decode cX6_lowest 54 = .ok (.ldiv, 1) := by decide +kernel
theorem dX6_lowest_55 : decode cX6_lowest 55 = .ok (.lreturn, 1) := by decide +kernel
theorem dX6_oddsOf_0 : decode cX6_oddsOf 0 = .ok (.lconst 0, 1) := by decide +kernel
theorem dX6_oddsOf_1 : decode cX6_oddsOf 1 = .ok (.lstore_n 2, 1) := by decide +kernel
theorem dX6_oddsOf_2 : decode cX6_oddsOf 2 = .ok (.iconst 0, 1) := by decide +kernel
theorem dX6_oddsOf_3 : decode cX6_oddsOf 3 = .ok (.istore 4, 2) := by decide +kernel
theorem dX6_oddsOf_5 : decode cX6_oddsOf 5 = .ok (.iload 4, 2) := by decide +kernel
theorem dX6_oddsOf_7 : decode cX6_oddsOf 7 = .ok (.aload_n 0, 1) := by decide +kernel
theorem dX6_oddsOf_8 : decode cX6_oddsOf 8 = .ok (.getfield 132, 3) := by decide +kernel
theorem dX6_oddsOf_11 : decode cX6_oddsOf 11 = .ok (.if_icmp .ge 37, 3) := by decide +kernel
theorem dX6_oddsOf_14 : decode cX6_oddsOf 14 = .ok (.lload_n 2, 1) := by decide +kernel
theorem dX6_oddsOf_15 : decode cX6_oddsOf 15 = .ok (.iload_n 1, 1) := by decide +kernel
theorem dX6_oddsOf_16 : decode cX6_oddsOf 16 = .ok (.iload 4, 2) := by decide +kernel
theorem dX6_oddsOf_18 : decode cX6_oddsOf 18 = .ok (.ishr, 1) := by decide +kernel
theorem dX6_oddsOf_19 : decode cX6_oddsOf 19 = .ok (.iconst 1, 1) := by decide +kernel
theorem dX6_oddsOf_20 : decode cX6_oddsOf 20 = .ok (.iand, 1) := by decide +kernel
theorem dX6_oddsOf_21 : decode cX6_oddsOf 21 = .ok (.iconst 1, 1) := by decide +kernel
theorem dX6_oddsOf_22 : decode cX6_oddsOf 22 = .ok (.if_icmp .ne 17, 3) := by decide +kernel
theorem dX6_oddsOf_25 : decode cX6_oddsOf 25 = .ok (.aload_n 0, 1) := by decide +kernel
theorem dX6_oddsOf_26 : decode cX6_oddsOf 26 = .ok (.getfield 7, 3) := by decide +kernel
theorem dX6_oddsOf_29 : decode cX6_oddsOf 29 = .ok (.bipush 8, 2) := by decide +kernel
theorem dX6_oddsOf_31 : decode cX6_oddsOf 31 = .ok (.iload 4, 2) := by decide +kernel
theorem dX6_oddsOf_33 : decode cX6_oddsOf 33 = .ok (.iadd, 1) := by decide +kernel
theorem dX6_oddsOf_34 : decode cX6_oddsOf 34 = .ok (.iaload, 1) := by decide +kernel
theorem dX6_oddsOf_35 : decode cX6_oddsOf 35 = .ok (.i2l, 1) := by decide +kernel
theorem dX6_oddsOf_36 : decode cX6_oddsOf 36 = .ok (.goto 4, 3) := by decide +kernel
theorem dX6_oddsOf_39 : decode cX6_oddsOf 39 = .ok (.lconst 0, 1) := by decide +kernel
theorem dX6_oddsOf_40 : decode cX6_oddsOf 40 = .ok (.ladd, 1) := by decide +kernel
theorem dX6_oddsOf_41 : decode cX6_oddsOf 41 = .ok (.lstore_n 2, 1) := by decide +kernel
theorem dX6_oddsOf_42 : decode cX6_oddsOf 42 = .ok (.iinc 4 1, 3) := by decide +kernel
theorem dX6_oddsOf_45 : decode cX6_oddsOf 45 = .ok (.goto (-40), 3) := by decide +kernel
theorem dX6_oddsOf_48 : decode cX6_oddsOf 48 = .ok (.lload_n 2, 1) := by decide +kernel
theorem dX6_oddsOf_49 : decode cX6_oddsOf 49 = .ok (.lreturn, 1) := by decide +kernel
theorem dX6_areSo_0 : decode cX6_areSo 0 = .ok (.iconst 0, 1) := by decide +kernel
theorem dX6_areSo_1 : decode cX6_areSo 1 = .ok (.istore 4, 2) := by decide +kernel
theorem dX6_areSo_3 : decode cX6_areSo 3 = .ok (.iconst 0, 1) := by decide +kernel
theorem dX6_areSo_4 : decode cX6_areSo 4 = .ok (.istore 5, 2) := by decide +kernel
theorem dX6_areSo_6 : decode cX6_areSo 6 = .ok (.iload 5, 2) := by decide +kernel
theorem dX6_areSo_8 : decode cX6_areSo 8 = .ok (.aload_n 0, 1) := by decide +kernel
theorem dX6_areSo_9 : decode cX6_areSo 9 = .ok (.getfield 132, 3) := by decide +kernel
theorem dX6_areSo_12 : decode cX6_areSo 12 = .ok (.if_icmp .ge 47, 3) := by decide +kernel
theorem dX6_areSo_15 : decode cX6_areSo 15 = .ok (.iload 4, 2) := by decide +kernel
theorem dX6_areSo_17 : decode cX6_areSo 17 = .ok (.iload_n 1, 1) := by decide +kernel
theorem dX6_areSo_18 : decode cX6_areSo 18 = .ok (.iload 5, 2) := by decide +kernel
theorem dX6_areSo_20 : decode cX6_areSo 20 = .ok (.ishr, 1) := by decide +kernel
theorem dX6_areSo_21 : decode cX6_areSo 21 = .ok (.iconst 1, 1) := by decide +kernel
theorem dX6_areSo_22 : decode cX6_areSo 22 = .ok (.iand, 1) := by decide +kernel
theorem dX6_areSo_23 : decode cX6_areSo 23 = .ok (.iconst 1, 1) := by decide +kernel
theorem dX6_areSo_24 : decode cX6_areSo 24 = .ok (.if_icmp .ne 25, 3) := by decide +kernel
theorem dX6_areSo_27 : decode cX6_areSo 27 = .ok (.aload_n 0, 1) := by decide +kernel
theorem dX6_areSo_28 : decode cX6_areSo 28 = .ok (.getfield 13, 3) := by decide +kernel
theorem dX6_areSo_31 : decode cX6_areSo 31 = .ok (.iload 5, 2) := by decide +kernel
theorem dX6_areSo_33 : decode cX6_areSo 33 = .ok (.iaload, 1) := by decide +kernel
theorem dX6_areSo_34 : decode cX6_areSo 34 = .ok (.iload_n 2, 1) := by decide +kernel
theorem dX6_areSo_35 : decode cX6_areSo 35 = .ok (.ishr, 1) := by decide +kernel
theorem dX6_areSo_36 : decode cX6_areSo 36 = .ok (.iconst 1, 1) := by decide +kernel
theorem dX6_areSo_37 : decode cX6_areSo 37 = .ok (.iand, 1) := by decide +kernel
theorem dX6_areSo_38 : decode cX6_areSo 38 = .ok (.iload_n 3, 1) := by decide +kernel
theorem dX6_areSo_39 : decode cX6_areSo 39 = .ok (.if_icmp .ne 10, 3) := by decide +kernel
theorem dX6_areSo_42 : decode cX6_areSo 42 = .ok (.iconst 1, 1) := by decide +kernel
theorem dX6_areSo_43 : decode cX6_areSo 43 = .ok (.iload 5, 2) := by decide +kernel
theorem dX6_areSo_45 : decode cX6_areSo 45 = .ok (.ishl, 1) := by decide +kernel
theorem dX6_areSo_46 : decode cX6_areSo 46 = .ok (.goto 4, 3) := by decide +kernel
theorem dX6_areSo_49 : decode cX6_areSo 49 = .ok (.iconst 0, 1) := by decide +kernel
theorem dX6_areSo_50 : decode cX6_areSo 50 = .ok (.ior, 1) := by decide +kernel
theorem dX6_areSo_51 : decode cX6_areSo 51 = .ok (.istore 4, 2) := by decide +kernel
theorem dX6_areSo_53 : decode cX6_areSo 53 = .ok (.iinc 5 1, 3) := by decide +kernel
theorem dX6_areSo_56 : decode cX6_areSo 56 = .ok (.goto (-50), 3) := by decide +kernel
theorem dX6_areSo_59 : decode cX6_areSo 59 = .ok (.iload 4, 2) := by decide +kernel
theorem dX6_areSo_61 : decode cX6_areSo 61 = .ok (.ireturn, 1) := by decide +kernel
theorem dX6_fat_0 : decode cX6_fat 0 = .ok (.iload_n 1, 1) := by decide +kernel
theorem dX6_fat_1 : decode cX6_fat 1 = .ok (.i2l, 1) := by decide +kernel
theorem dX6_fat_2 : decode cX6_fat 2 = .ok (.lconst 0, 1) := by decide +kernel
theorem dX6_fat_3 : decode cX6_fat 3 = .ok (.ldc2_w 214, 3) := by decide +kernel
theorem dX6_fat_6 : decode cX6_fat 6 = .ok (.invokestatic 53, 3) := by decide +kernel
theorem dX6_fat_9 : decode cX6_fat 9 = .ok (.ifCond .eq 13, 3) := by decide +kernel
theorem dX6_fat_12 : decode cX6_fat 12 = .ok (.iload_n 2, 1) := by decide +kernel
theorem dX6_fat_13 : decode cX6_fat 13 = .ok (.i2l, 1) := by decide +kernel
theorem dX6_fat_14 : decode cX6_fat 14 = .ok (.lconst 0, 1) := by decide +kernel
theorem dX6_fat_15 : decode cX6_fat 15 = .ok (.lconst 1, 1) := by decide +kernel
theorem dX6_fat_16 : decode cX6_fat 16 = .ok (.invokestatic 53, 3) := by decide +kernel
theorem dX6_fat_19 : decode cX6_fat 19 = .ok (.ifCond .ne 7, 3) := by decide +kernel
theorem dX6_fat_22 : decode cX6_fat 22 = .ok (.ldc2_w 216, 3) := by decide +kernel
theorem dX6_fat_25 : decode cX6_fat 25 = .ok (.lreturn, 1) := by decide +kernel
theorem dX6_fat_26 : decode cX6_fat 26 = .ok (.aload_n 0, 1) := by decide +kernel
theorem dX6_fat_27 : decode cX6_fat 27 = .ok (.invokevirtual 211, 3) := by decide +kernel
theorem dX6_fat_30 : decode cX6_fat 30 = .ok (.istore_n 3, 1) := by decide +kernel
theorem dX6_fat_31 : decode cX6_fat 31 = .ok (.iload_n 3, 1) := by decide +kernel
theorem dX6_fat_32 : decode cX6_fat 32 = .ok (.ifCond .ne 9, 3) := by decide +kernel
theorem dX6_fat_35 : decode cX6_fat 35 = .ok (.ldc2_w 218, 3) := by decide +kernel
theorem dX6_fat_38 : decode cX6_fat 38 = .ok (.goto 23, 3) := by decide +kernel
theorem dX6_fat_41 : decode cX6_fat 41 = .ok (.aload_n 0, 1) := by decide +kernel
theorem dX6_fat_42 : decode cX6_fat 42 = .ok (.aload_n 0, 1) := by decide +kernel
theorem dX6_fat_43 : decode cX6_fat 43 = .ok (.iload_n 3, 1) := by decide +kernel
theorem dX6_fat_44 : decode cX6_fat 44 = .ok (.iload_n 1, 1) := by decide +kernel
theorem dX6_fat_45 : decode cX6_fat 45 = .ok (.iconst 1, 1) := by decide +kernel
theorem dX6_fat_46 : decode cX6_fat 46 = .ok (.invokevirtual 220, 3) := by decide +kernel
theorem dX6_fat_49 : decode cX6_fat 49 = .ok (.invokevirtual 223, 3) := by decide +kernel
theorem dX6_fat_52 : decode cX6_fat 52 = .ok (.aload_n 0, 1) := by decide +kernel
theorem dX6_fat_53 : decode cX6_fat 53 = .ok (.iload_n 3, 1) := by decide +kernel
theorem dX6_fat_54 : decode cX6_fat 54 = .ok (.invokevirtual 223, 3) := by decide +kernel
theorem dX6_fat_57 : decode cX6_fat 57 = .ok (.iload_n 2, 1) := by decide +kernel
theorem dX6_fat_58 : decode cX6_fat 58 = .ok (.invokestatic 227, 3) := by decide +kernel
theorem dX6_fat_61 : decode cX6_fat 61 = .ok (.lreturn, 1) := by decide +kernel
theorem dX6_at_0 : decode cX6_at 0 = .ok (.sipush 656, 3) := by decide +kernel
theorem dX6_at_3 : decode cX6_at 3 = .ok (.iload_n 0, 1) := by decide +kernel
theorem dX6_at_4 : decode cX6_at 4 = .ok (.imul, 1) := by decide +kernel
theorem dX6_at_5 : decode cX6_at 5 = .ok (.bipush 41, 2) := by decide +kernel
theorem dX6_at_7 : decode cX6_at 7 = .ok (.iload_n 1, 1) := by decide +kernel
theorem dX6_at_8 : decode cX6_at 8 = .ok (.imul, 1) := by decide +kernel
theorem dX6_at_9 : decode cX6_at 9 = .ok (.iadd, 1) := by decide +kernel
theorem dX6_at_10 : decode cX6_at 10 = .ok (.iload_n 2, 1) := by decide +kernel
theorem dX6_at_11 : decode cX6_at 11 = .ok (.iadd, 1) := by decide +kernel
theorem dX6_at_12 : decode cX6_at 12 = .ok (.ireturn, 1) := by decide +kernel
theorem dX6_byKept_0 : decode cX6_byKept 0 = .ok (.iload 4, 2) := by decide +kernel
theorem dX6_byKept_2 : decode cX6_byKept 2 = .ok (.aload_n 0, 1) := by decide +kernel
theorem dX6_byKept_3 : decode cX6_byKept 3 = .ok (.iconst 0, 1) := by decide +kernel
theorem dX6_byKept_4 : decode cX6_byKept 4 = .ok (.iload 5, 2) := by decide +kernel
theorem dX6_byKept_6 : decode cX6_byKept 6 = .ok (.invokevirtual 166, 3) := by decide +kernel
theorem dX6_byKept_9 : decode cX6_byKept 9 = .ok (.iadd, 1) := by decide +kernel
theorem dX6_byKept_10 : decode cX6_byKept 10 = .ok (.istore 7, 2) := by decide +kernel
theorem dX6_byKept_12 : decode cX6_byKept 12 = .ok (.aload_n 0, 1) := by decide +kernel
theorem dX6_byKept_13 : decode cX6_byKept 13 = .ok (.getfield 7, 3) := by decide +kernel
theorem dX6_byKept_16 : decode cX6_byKept 16 = .ok (.bipush 12, 2) := by decide +kernel
theorem dX6_byKept_18 : decode cX6_byKept 18 = .ok (.iaload, 1) := by decide +kernel
theorem dX6_byKept_19 : decode cX6_byKept 19 = .ok (.istore 8, 2) := by decide +kernel
theorem dX6_byKept_21 : decode cX6_byKept 21 = .ok (.iload 7, 2) := by decide +kernel
theorem dX6_byKept_23 : decode cX6_byKept 23 = .ok (.iload 8, 2) := by decide +kernel
theorem dX6_byKept_25 : decode cX6_byKept 25 = .ok (.if_icmp .ge 11, 3) := by decide +kernel
theorem dX6_byKept_28 : decode cX6_byKept 28 = .ok (.iload 8, 2) := by decide +kernel
theorem dX6_byKept_30 : decode cX6_byKept 30 = .ok (.iload 7, 2) := by decide +kernel
theorem dX6_byKept_32 : decode cX6_byKept 32 = .ok (.isub, 1) := by decide +kernel
theorem dX6_byKept_33 : decode cX6_byKept 33 = .ok (.goto 4, 3) := by decide +kernel
theorem dX6_byKept_36 : decode cX6_byKept 36 = .ok (.iconst 0, 1) := by decide +kernel
theorem dX6_byKept_37 : decode cX6_byKept 37 = .ok (.istore 9, 2) := by decide +kernel
theorem dX6_byKept_39 : decode cX6_byKept 39 = .ok (.iload 7, 2) := by decide +kernel
theorem dX6_byKept_41 : decode cX6_byKept 41 = .ok (.iload 8, 2) := by decide +kernel
theorem dX6_byKept_43 : decode cX6_byKept 43 = .ok (.if_icmp .le 11, 3) := by decide +kernel
theorem dX6_byKept_46 : decode cX6_byKept 46 = .ok (.iload 7, 2) := by decide +kernel
theorem dX6_byKept_48 : decode cX6_byKept 48 = .ok (.iload 8, 2) := by decide +kernel
theorem dX6_byKept_50 : decode cX6_byKept 50 = .ok (.isub, 1) := by decide +kernel
theorem dX6_byKept_51 : decode cX6_byKept 51 = .ok (.goto 4, 3) := by decide +kernel
theorem dX6_byKept_54 : decode cX6_byKept 54 = .ok (.iconst 0, 1) := by decide +kernel
theorem dX6_byKept_55 : decode cX6_byKept 55 = .ok (.istore 10, 2) := by decide +kernel
theorem dX6_byKept_57 : decode cX6_byKept 57 = .ok (.iload 10, 2) := by decide +kernel
theorem dX6_byKept_59 : decode cX6_byKept 59 = .ok (.iload 6, 2) := by decide +kernel
theorem dX6_byKept_61 : decode cX6_byKept 61 = .ok (.isub, 1) := by decide +kernel
theorem dX6_byKept_62 : decode cX6_byKept 62 = .ok (.aload_n 0, 1) := by decide +kernel
theorem dX6_byKept_63 : decode cX6_byKept 63 = .ok (.getfield 7, 3) := by decide +kernel
theorem dX6_byKept_66 : decode cX6_byKept 66 = .ok (.bipush 17, 2) := by decide +kernel
theorem dX6_byKept_68 : decode cX6_byKept 68 = .ok (.iload 5, 2) := by decide +kernel
theorem dX6_byKept_70 : decode cX6_byKept 70 = .ok (.iadd, 1) := by decide +kernel
theorem dX6_byKept_71 : decode cX6_byKept 71 = .ok (.iaload, 1) := by decide +kernel
theorem dX6_byKept_72 : decode cX6_byKept 72 = .ok (.iconst 1, 1) := by decide +kernel
theorem dX6_byKept_73 : decode cX6_byKept 73 = .ok (.iadd, 1) := by decide +kernel
theorem dX6_byKept_74 : decode cX6_byKept 74 = .ok (.imul, 1) := by decide +kernel
theorem dX6_byKept_75 : decode cX6_byKept 75 = .ok (.iload 9, 2) := by decide +kernel
theorem dX6_byKept_77 : decode cX6_byKept 77 = .ok (.aload_n 0, 1) := by decide +kernel
theorem dX6_byKept_78 : decode cX6_byKept 78 = .ok (.getfield 7, 3) := by decide +kernel
theorem dX6_byKept_81 : decode cX6_byKept 81 = .ok (.bipush 13, 2) := by decide +kernel
theorem dX6_byKept_83 : decode cX6_byKept 83 = .ok (.iaload, 1) := by decide +kernel
theorem dX6_byKept_84 : decode cX6_byKept 84 = .ok (.imul, 1) := by decide +kernel
theorem dX6_byKept_85 : decode cX6_byKept 85 = .ok (.isub, 1) := by decide +kernel
theorem dX6_byKept_86 : decode cX6_byKept 86 = .ok (.i2l, 1) := by decide +kernel
theorem dX6_byKept_87 : decode cX6_byKept 87 = .ok (.lstore 11, 2) := by decide +kernel
theorem dX6_byKept_89 : decode cX6_byKept 89 = .ok (.aload_n 0, 1) := by decide +kernel
theorem dX6_byKept_90 : decode cX6_byKept 90 = .ok (.iload_n 3, 1) := by decide +kernel
theorem dX6_byKept_91 : decode cX6_byKept 91 = .ok (.invokevirtual 223, 3) := by decide +kernel
theorem dX6_byKept_94 : decode cX6_byKept 94 = .ok (.lload 11, 2) := by decide +kernel
theorem dX6_byKept_96 : decode cX6_byKept 96 = .ok (.lmul, 1) := by decide +kernel
theorem dX6_byKept_97 : decode cX6_byKept 97 = .ok (.aload_n 0, 1) := by decide +kernel
theorem dX6_byKept_98 : decode cX6_byKept 98 = .ok (.getfield 31, 3) := by decide +kernel
theorem dX6_byKept_101 : decode cX6_byKept 101 = .ok (.iload_n 2, 1) := by decide +kernel
theorem dX6_byKept_102 : decode cX6_byKept 102 = .ok (.iconst 1, 1) := by decide +kernel
theorem dX6_byKept_103 : decode cX6_byKept 103 = .ok (.isub, 1) := by decide +kernel
theorem dX6_byKept_104 : decode cX6_byKept 104 = .ok (.iload_n 3, 1) := by decide +kernel
theorem dX6_byKept_105 : decode cX6_byKept 105 = .ok (.iload 6, 2) := by decide +kernel
theorem dX6_byKept_107 : decode cX6_byKept 107 = .ok (.aload_n 0, 1) := by decide +kernel
theorem dX6_byKept_108 : decode cX6_byKept 108 = .ok (.getfield 7, 3) := by decide +kernel
theorem dX6_byKept_111 : decode cX6_byKept 111 = .ok (.bipush 15, 2) := by decide +kernel
theorem dX6_byKept_113 : decode cX6_byKept 113 = .ok (.iaload, 1) := by decide +kernel
theorem dX6_byKept_114 : decode cX6_byKept 114 = .ok (.invokestatic 182, 3) := by decide +kernel
theorem dX6_byKept_117 : decode cX6_byKept 117 = .ok (.invokestatic 231, 3) := by decide +kernel
theorem dX6_byKept_120 : decode cX6_byKept 120 = .ok (.laload, 1) := by decide +kernel
theorem dX6_byKept_121 : decode cX6_byKept 121 = .ok (.ladd, 1) := by decide +kernel
theorem dX6_byKept_122 : decode cX6_byKept 122 = .ok (.lreturn, 1) := by decide +kernel
theorem dX6_mostKept_0 : decode cX6_mostKept 0 = .ok (.iload_n 1, 1) := by decide +kernel
theorem dX6_mostKept_1 : decode cX6_mostKept 1 = .ok (.aload_n 0, 1) := by decide +kernel
theorem dX6_mostKept_2 : decode cX6_mostKept 2 = .ok (.iconst 0, 1) := by decide +kernel
theorem dX6_mostKept_3 : decode cX6_mostKept 3 = .ok (.iload_n 2, 1) := by decide +kernel
theorem dX6_mostKept_4 : decode cX6_mostKept 4 = .ok (.invokevirtual 166, 3) := by decide +kernel
theorem dX6_mostKept_7 : decode cX6_mostKept 7 = .ok (.iadd, 1) := by decide +kernel
theorem dX6_mostKept_8 : decode cX6_mostKept 8 = .ok (.istore_n 3, 1) := by decide +kernel
theorem dX6_mostKept_9 : decode cX6_mostKept 9 = .ok (.iload_n 3, 1) := by decide +kernel
theorem dX6_mostKept_10 : decode cX6_mostKept 10 = .ok (.aload_n 0, 1) := by decide +kernel
theorem dX6_mostKept_11 : decode cX6_mostKept 11 = .ok (.getfield 7, 3) := by decide +kernel
theorem dX6_mostKept_14 : decode cX6_mostKept 14 = .ok (.bipush 12, 2) := by decide +kernel
theorem dX6_mostKept_16 : decode cX6_mostKept 16 = .ok (.iaload, 1) := by decide +kernel
theorem dX6_mostKept_17 : decode cX6_mostKept 17 = .ok (.if_icmp .le 15, 3) := by decide +kernel
theorem dX6_mostKept_20 : decode cX6_mostKept 20 = .ok (.iload_n 3, 1) := by decide +kernel
theorem dX6_mostKept_21 : decode cX6_mostKept 21 = .ok (.aload_n 0, 1) := by decide +kernel
theorem dX6_mostKept_22 : decode cX6_mostKept 22 = .ok (.getfield 7, 3) := by decide +kernel
theorem dX6_mostKept_25 : decode cX6_mostKept 25 = .ok (.bipush 12, 2) := by decide +kernel
theorem dX6_mostKept_27 : decode cX6_mostKept 27 = .ok (.iaload, 1) := by decide +kernel
theorem dX6_mostKept_28 : decode cX6_mostKept 28 = .ok (.isub, 1) := by decide +kernel
theorem dX6_mostKept_29 : decode cX6_mostKept 29 = .ok (.goto 4, 3) := by decide +kernel
theorem dX6_mostKept_32 : decode cX6_mostKept 32 = .ok (.iconst 0, 1) := by decide +kernel
theorem dX6_mostKept_33 : decode cX6_mostKept 33 = .ok (.istore 4, 2) := by decide +kernel
theorem dX6_mostKept_35 : decode cX6_mostKept 35 = .ok (.iload 4, 2) := by decide +kernel
theorem dX6_mostKept_37 : decode cX6_mostKept 37 = .ok (.aload_n 0, 1) := by decide +kernel
theorem dX6_mostKept_38 : decode cX6_mostKept 38 = .ok (.iconst 0, 1) := by decide +kernel
theorem dX6_mostKept_39 : decode cX6_mostKept 39 = .ok (.invokevirtual 138, 3) := by decide +kernel
theorem dX6_mostKept_42 : decode cX6_mostKept 42 = .ok (.if_icmp .ge 8, 3) := by decide +kernel
theorem dX6_mostKept_45 : decode cX6_mostKept 45 = .ok (.iload 4, 2) := by decide +kernel
theorem dX6_mostKept_47 : decode cX6_mostKept 47 = .ok (.goto 8, 3) := by decide +kernel
theorem dX6_mostKept_50 : decode cX6_mostKept 50 = .ok (.aload_n 0, 1) := by decide +kernel
theorem dX6_mostKept_51 : decode cX6_mostKept 51 = .ok (.iconst 0, 1) := by decide +kernel
theorem dX6_mostKept_52 : decode cX6_mostKept 52 = .ok (.invokevirtual 138, 3) := by decide +kernel
theorem dX6_mostKept_55 : decode cX6_mostKept 55 = .ok (.ireturn, 1) := by decide +kernel
theorem dX6_bestSo_0 : decode cX6_bestSo 0 = .ok (.aload_n 0, 1) := by decide +kernel
theorem dX6_bestSo_1 : decode cX6_bestSo 1 = .ok (.iload_n 3, 1) := by decide +kernel
theorem dX6_bestSo_2 : decode cX6_bestSo 2 = .ok (.iload_n 1, 1) := by decide +kernel
theorem dX6_bestSo_3 : decode cX6_bestSo 3 = .ok (.iload 5, 2) := by decide +kernel
theorem dX6_bestSo_5 : decode cX6_bestSo 5 = .ok (.invokevirtual 220, 3) := by decide +kernel
theorem dX6_bestSo_8 : decode cX6_bestSo 8 = .ok (.istore 6, 2) := by decide +kernel
theorem dX6_bestSo_10 : decode cX6_bestSo 10 = .ok (.iload 6, 2) := by decide +kernel
theorem dX6_bestSo_12 : decode cX6_bestSo 12 = .ok (.ifCond .ne 5, 3) := by decide +kernel
theorem dX6_bestSo_15 : decode cX6_bestSo 15 = .ok (.lconst 0, 1) := by decide +kernel
theorem dX6_bestSo_16 : decode cX6_bestSo 16 = .ok (.lreturn, 1) := by decide +kernel
theorem dX6_bestSo_17 : decode cX6_bestSo 17 = .ok (.aload_n 0, 1) := by decide +kernel
theorem dX6_bestSo_18 : decode cX6_bestSo 18 = .ok (.iload_n 1, 1) := by decide +kernel
theorem dX6_bestSo_19 : decode cX6_bestSo 19 = .ok (.iload_n 2, 1) := by decide +kernel
theorem dX6_bestSo_20 : decode cX6_bestSo 20 = .ok (.iload 6, 2) := by decide +kernel
theorem dX6_bestSo_22 : decode cX6_bestSo 22 = .ok (.iload 4, 2) := by decide +kernel
theorem dX6_bestSo_24 : decode cX6_bestSo 24 = .ok (.iload 5, 2) := by decide +kernel
theorem dX6_bestSo_26 : decode cX6_bestSo 26 = .ok (.iconst 0, 1) := by decide +kernel
theorem dX6_bestSo_27 : decode cX6_bestSo 27 = .ok (.invokevirtual 234, 3) := by decide +kernel
theorem dX6_bestSo_30 : decode cX6_bestSo 30 = .ok (.lstore 7, 2) := by decide +kernel
theorem dX6_bestSo_32 : decode cX6_bestSo 32 = .ok (.iconst 1, 1) := by decide +kernel
theorem dX6_bestSo_33 : decode cX6_bestSo 33 = .ok (.istore 9, 2) := by decide +kernel
theorem dX6_bestSo_35 : decode cX6_bestSo 35 = .ok (.iload 9, 2) := by decide +kernel
theorem dX6_bestSo_37 : decode cX6_bestSo 37 = .ok (.aload_n 0, 1) := by decide +kernel
theorem dX6_bestSo_38 : decode cX6_bestSo 38 = .ok (.iload 4, 2) := by decide +kernel
theorem dX6_bestSo_40 : decode cX6_bestSo 40 = .ok (.iload 5, 2) := by decide +kernel
theorem dX6_bestSo_42 : decode cX6_bestSo 42 = .ok (.invokevirtual 238, 3) := by decide +kernel
theorem dX6_bestSo_45 : decode cX6_bestSo 45 = .ok (.if_icmp .gt 42, 3) := by decide +kernel
theorem dX6_bestSo_48 : decode cX6_bestSo 48 = .ok (.aload_n 0, 1) := by decide +kernel
theorem dX6_bestSo_49 : decode cX6_bestSo 49 = .ok (.iload_n 1, 1) := by decide +kernel
theorem dX6_bestSo_50 : decode cX6_bestSo 50 = .ok (.iload_n 2, 1) := by decide +kernel
theorem dX6_bestSo_51 : decode cX6_bestSo 51 = .ok (.iload 6, 2) := by decide +kernel
theorem dX6_bestSo_53 : decode cX6_bestSo 53 = .ok (.iload 4, 2) := by decide +kernel
theorem dX6_bestSo_55 : decode cX6_bestSo 55 = .ok (.iload 5, 2) := by decide +kernel
theorem dX6_bestSo_57 : decode cX6_bestSo 57 = .ok (.iload 9, 2) := by decide +kernel
theorem dX6_bestSo_59 : decode cX6_bestSo 59 = .ok (.invokevirtual 234, 3) := by decide +kernel
theorem dX6_bestSo_62 : decode cX6_bestSo 62 = .ok (.lstore 10, 2) := by decide +kernel
theorem dX6_bestSo_64 : decode cX6_bestSo 64 = .ok (.lload 10, 2) := by decide +kernel
theorem dX6_bestSo_66 : decode cX6_bestSo 66 = .ok (.lload 7, 2) := by decide +kernel
theorem dX6_bestSo_68 : decode cX6_bestSo 68 = .ok (.lcmp, 1) := by decide +kernel
theorem dX6_bestSo_69 : decode cX6_bestSo 69 = .ok (.ifCond .le 8, 3) := by decide +kernel
theorem dX6_bestSo_72 : decode cX6_bestSo 72 = .ok (.lload 10, 2) := by decide +kernel
theorem dX6_bestSo_74 : decode cX6_bestSo 74 = .ok (.goto 5, 3) := by decide +kernel
theorem dX6_bestSo_77 : decode cX6_bestSo 77 = .ok (.lload 7, 2) := by decide +kernel
theorem dX6_bestSo_79 : decode cX6_bestSo 79 = .ok (.lstore 7, 2) := by decide +kernel
theorem dX6_bestSo_81 : decode cX6_bestSo 81 = .ok (.iinc 9 1, 3) := by decide +kernel
theorem dX6_bestSo_84 : decode cX6_bestSo 84 = .ok (.goto (-49), 3) := by decide +kernel
theorem dX6_bestSo_87 : decode cX6_bestSo 87 = .ok (.lload 7, 2) := by decide +kernel
theorem dX6_bestSo_89 : decode cX6_bestSo 89 = .ok (.lreturn, 1) := by decide +kernel
theorem dX6_yearsLeft_0 : decode cX6_yearsLeft 0 = .ok (.bipush 8, 2) := by decide +kernel
theorem dX6_yearsLeft_2 : decode cX6_yearsLeft 2 = .ok (.aload_n 0, 1) := by decide +kernel
theorem dX6_yearsLeft_3 : decode cX6_yearsLeft 3 = .ok (.getfield 7, 3) := by decide +kernel
theorem dX6_yearsLeft_6 : decode cX6_yearsLeft 6 = .ok (.bipush 21, 2) := by decide +kernel
theorem dX6_yearsLeft_8 : decode cX6_yearsLeft 8 = .ok (.iaload, 1) := by decide +kernel
theorem dX6_yearsLeft_9 : decode cX6_yearsLeft 9 = .ok (.isub, 1) := by decide +kernel
theorem dX6_yearsLeft_10 : decode cX6_yearsLeft 10 = .ok (.istore_n 2, 1) := by decide +kernel
theorem dX6_yearsLeft_11 : decode cX6_yearsLeft 11 = .ok (.iload_n 1, 1) := by decide +kernel
theorem dX6_yearsLeft_12 : decode cX6_yearsLeft 12 = .ok (.iload_n 2, 1) := by decide +kernel
theorem dX6_yearsLeft_13 : decode cX6_yearsLeft 13 = .ok (.if_icmp .ge 7, 3) := by decide +kernel
theorem dX6_yearsLeft_16 : decode cX6_yearsLeft 16 = .ok (.iload_n 1, 1) := by decide +kernel
theorem dX6_yearsLeft_17 : decode cX6_yearsLeft 17 = .ok (.goto 4, 3) := by decide +kernel
theorem dX6_yearsLeft_20 : decode cX6_yearsLeft 20 = .ok (.iload_n 2, 1) := by decide +kernel
theorem dX6_yearsLeft_21 : decode cX6_yearsLeft 21 = .ok (.ireturn, 1) := by decide +kernel
theorem dX6_layWorths_0 : decode cX6_layWorths 0 = .ok (.iconst 0, 1) := by decide +kernel
theorem dX6_layWorths_1 : decode cX6_layWorths 1 = .ok (.istore_n 2, 1) := by decide +kernel
theorem dX6_layWorths_2 : decode cX6_layWorths 2 = .ok (.iload_n 2, 1) := by decide +kernel
theorem dX6_layWorths_3 : decode cX6_layWorths 3 = .ok (.iload_n 1, 1) := by decide +kernel
theorem dX6_layWorths_4 : decode cX6_layWorths 4 = .ok (.if_icmp .gt 106, 3) := by decide +kernel
theorem dX6_layWorths_7 : decode cX6_layWorths 7 = .ok (.aload_n 0, 1) := by decide +kernel
theorem dX6_layWorths_8 : decode cX6_layWorths 8 = .ok (.getfield 7, 3) := by decide +kernel
theorem dX6_layWorths_11 : decode cX6_layWorths 11 = .ok (.bipush 21, 2) := by decide +kernel
theorem dX6_layWorths_13 : decode cX6_layWorths 13 = .ok (.iaload, 1) := by decide +kernel
theorem dX6_layWorths_14 : decode cX6_layWorths 14 = .ok (.iload_n 1, 1) := by decide +kernel
theorem dX6_layWorths_15 : decode cX6_layWorths 15 = .ok (.iadd, 1) := by decide +kernel
theorem dX6_layWorths_16 : decode cX6_layWorths 16 = .ok (.iload_n 2, 1) := by decide +kernel
theorem dX6_layWorths_17 : decode cX6_layWorths 17 = .ok (.isub, 1) := by decide +kernel
theorem dX6_layWorths_18 : decode cX6_layWorths 18 = .ok (.istore_n 3, 1) := by decide +kernel
theorem dX6_layWorths_19 : decode cX6_layWorths 19 = .ok (.iconst 0, 1) := by decide +kernel
theorem dX6_layWorths_20 : decode cX6_layWorths 20 = .ok (.istore 4, 2) := by decide +kernel
theorem dX6_layWorths_22 : decode cX6_layWorths 22 = .ok (.iload 4, 2) := by decide +kernel
theorem dX6_layWorths_24 : decode cX6_layWorths 24 = .ok (.iconst 1, 1) := by decide +kernel
theorem dX6_layWorths_25 : decode cX6_layWorths 25 = .ok (.aload_n 0, 1) := by decide +kernel
theorem dX6_layWorths_26 : decode cX6_layWorths 26 = .ok (.getfield 132, 3) := by decide +kernel
theorem dX6_layWorths_29 : decode cX6_layWorths 29 = .ok (.ishl, 1) := by decide +kernel
theorem dX6_layWorths_30 : decode cX6_layWorths 30 = .ok (.if_icmp .ge 74, 3) := by decide +kernel
theorem dX6_layWorths_33 : decode cX6_layWorths 33 = .ok (.iconst 0, 1) := by decide +kernel
theorem dX6_layWorths_34 : decode cX6_layWorths 34 = .ok (.istore 5, 2) := by decide +kernel
theorem dX6_layWorths_36 : decode cX6_layWorths 36 = .ok (.iload 5, 2) := by decide +kernel
theorem dX6_layWorths_38 : decode cX6_layWorths 38 = .ok (.bipush 40, 2) := by decide +kernel
theorem dX6_layWorths_40 : decode cX6_layWorths 40 = .ok (.if_icmp .gt 58, 3) := by decide +kernel
theorem dX6_layWorths_43 : decode cX6_layWorths 43 = .ok (.aload_n 0, 1) := by decide +kernel
theorem dX6_layWorths_44 : decode cX6_layWorths 44 = .ok (.getfield 31, 3) := by decide +kernel
theorem dX6_layWorths_47 : decode cX6_layWorths 47 = .ok (.iload_n 2, 1) := by decide +kernel
theorem dX6_layWorths_48 : decode cX6_layWorths 48 = .ok (.iload 4, 2) := by decide +kernel
theorem dX6_layWorths_50 : decode cX6_layWorths 50 = .ok (.iload 5, 2) := by decide +kernel
theorem dX6_layWorths_52 : decode cX6_layWorths 52 = .ok (.invokestatic 231, 3) := by decide +kernel
theorem dX6_layWorths_55 : decode cX6_layWorths 55 = .ok (.iload_n 2, 1) := by decide +kernel
theorem dX6_layWorths_56 : decode cX6_layWorths 56 = .ok (.ifCond .eq 8, 3) := by decide +kernel
theorem dX6_layWorths_59 : decode cX6_layWorths 59 = .ok (.iload 4, 2) := by decide +kernel
theorem dX6_layWorths_61 : decode cX6_layWorths 61 = .ok (.ifCond .ne 7, 3) := by decide +kernel
theorem dX6_layWorths_64 : decode cX6_layWorths 64 = .ok (.lconst 0, 1) := by decide +kernel
theorem dX6_layWorths_65 : decode cX6_layWorths 65 = .ok (.goto 26, 3) := by decide +kernel
theorem dX6_layWorths_68 : decode cX6_layWorths 68 = .ok (.aload_n 0, 1) := by decide +kernel
theorem dX6_layWorths_69 : decode cX6_layWorths 69 = .ok (.iload_n 3, 1) := by decide +kernel
theorem dX6_layWorths_70 : decode cX6_layWorths 70 = .ok (.iload_n 2, 1) := by decide +kernel
theorem dX6_layWorths_71 : decode cX6_layWorths 71 = .ok (.iload 4, 2) := by decide +kernel
theorem dX6_layWorths_73 : decode cX6_layWorths 73 = .ok (.iload 5, 2) := by decide +kernel
theorem dX6_layWorths_75 : decode cX6_layWorths 75 = .ok (.iconst 0, 1) := by decide +kernel
theorem dX6_layWorths_76 : decode cX6_layWorths 76 = .ok (.invokevirtual 241, 3) := by decide +kernel
theorem dX6_layWorths_79 : decode cX6_layWorths 79 = .ok (.aload_n 0, 1) := by decide +kernel
theorem dX6_layWorths_80 : decode cX6_layWorths 80 = .ok (.iload_n 3, 1) := by decide +kernel
theorem dX6_layWorths_81 : decode cX6_layWorths 81 = .ok (.iload_n 2, 1) := by decide +kernel
theorem dX6_layWorths_82 : decode cX6_layWorths 82 = .ok (.iload 4, 2) := by decide +kernel
theorem dX6_layWorths_84 : decode cX6_layWorths 84 = .ok (.iload 5, 2) := by decide +kernel
theorem dX6_layWorths_86 : decode cX6_layWorths 86 = .ok (.iconst 1, 1) := by decide +kernel
theorem dX6_layWorths_87 : decode cX6_layWorths 87 = .ok (.invokevirtual 241, 3) := by decide +kernel
theorem dX6_layWorths_90 : decode cX6_layWorths 90 = .ok (.ladd, 1) := by decide +kernel
theorem dX6_layWorths_91 : decode cX6_layWorths 91 = .ok (.lastore, 1) := by decide +kernel
theorem dX6_layWorths_92 : decode cX6_layWorths 92 = .ok (.iinc 5 1, 3) := by decide +kernel
theorem dX6_layWorths_95 : decode cX6_layWorths 95 = .ok (.goto (-59), 3) := by decide +kernel
theorem dX6_layWorths_98 : decode cX6_layWorths 98 = .ok (.iinc 4 1, 3) := by decide +kernel
theorem dX6_layWorths_101 : decode cX6_layWorths 101 = .ok (.goto (-79), 3) := by decide +kernel
theorem dX6_layWorths_104 : decode cX6_layWorths 104 = .ok (.iinc 2 1, 3) := by decide +kernel
theorem dX6_layWorths_107 : decode cX6_layWorths 107 = .ok (.goto (-105), 3) := by decide +kernel
theorem dX6_layWorths_110 : decode cX6_layWorths 110 = .ok (.return_, 1) := by decide +kernel
theorem dX6_bestIn_0 : decode cX6_bestIn 0 = .ok (.aload_n 0, 1) := by decide +kernel
theorem dX6_bestIn_1 : decode cX6_bestIn 1 = .ok (.iload_n 1, 1) := by decide +kernel
theorem dX6_bestIn_2 : decode cX6_bestIn 2 = .ok (.invokevirtual 245, 3) := by decide +kernel
theorem dX6_bestIn_5 : decode cX6_bestIn 5 = .ok (.istore_n 3, 1) := by decide +kernel
theorem dX6_bestIn_6 : decode cX6_bestIn 6 = .ok (.aload_n 0, 1) := by decide +kernel
theorem dX6_bestIn_7 : decode cX6_bestIn 7 = .ok (.iload_n 3, 1) := by decide +kernel
theorem dX6_bestIn_8 : decode cX6_bestIn 8 = .ok (.invokevirtual 248, 3) := by decide +kernel
theorem dX6_bestIn_11 : decode cX6_bestIn 11 = .ok (.aload_n 0, 1) := by decide +kernel
theorem dX6_bestIn_12 : decode cX6_bestIn 12 = .ok (.getfield 31, 3) := by decide +kernel
theorem dX6_bestIn_15 : decode cX6_bestIn 15 = .ok (.iload_n 3, 1) := by decide +kernel
theorem dX6_bestIn_16 : decode cX6_bestIn 16 = .ok (.iload_n 2, 1) := by decide +kernel
theorem dX6_bestIn_17 : decode cX6_bestIn 17 = .ok (.aload_n 0, 1) := by decide +kernel
theorem dX6_bestIn_18 : decode cX6_bestIn 18 = .ok (.getfield 7, 3) := by decide +kernel
theorem dX6_bestIn_21 : decode cX6_bestIn 21 = .ok (.bipush 16, 2) := by decide +kernel
theorem dX6_bestIn_23 : decode cX6_bestIn 23 = .ok (.iaload, 1) := by decide +kernel
theorem dX6_bestIn_24 : decode cX6_bestIn 24 = .ok (.invokestatic 231, 3) := by decide +kernel
theorem dX6_bestIn_27 : decode cX6_bestIn 27 = .ok (.laload, 1) := by decide +kernel
theorem dX6_bestIn_28 : decode cX6_bestIn 28 = .ok (.lreturn, 1) := by decide +kernel
theorem dX6_best_0 : decode cX6_best 0 = .ok (.iload_n 1, 1) := by decide +kernel
theorem dX6_best_1 : decode cX6_best 1 = .ok (.i2l, 1) := by decide +kernel
theorem dX6_best_2 : decode cX6_best 2 = .ok (.lconst 0, 1) := by decide +kernel
theorem dX6_best_3 : decode cX6_best 3 = .ok (.ldc2_w 109, 3) := by decide +kernel
theorem dX6_best_6 : decode cX6_best 6 = .ok (.invokestatic 53, 3) := by decide +kernel
theorem dX6_best_9 : decode cX6_best 9 = .ok (.ifCond .eq 13, 3) := by decide +kernel
theorem dX6_best_12 : decode cX6_best 12 = .ok (.iload_n 2, 1) := by decide +kernel
theorem dX6_best_13 : decode cX6_best 13 = .ok (.i2l, 1) := by decide +kernel
theorem dX6_best_14 : decode cX6_best 14 = .ok (.lconst 0, 1) := by decide +kernel
theorem dX6_best_15 : decode cX6_best 15 = .ok (.lconst 1, 1) := by decide +kernel
theorem dX6_best_16 : decode cX6_best 16 = .ok (.invokestatic 53, 3) := by decide +kernel
theorem dX6_best_19 : decode cX6_best 19 = .ok (.ifCond .ne 7, 3) := by decide +kernel
theorem dX6_best_22 : decode cX6_best 22 = .ok (.ldc2_w 216, 3) := by decide +kernel
theorem dX6_best_25 : decode cX6_best 25 = .ok (.lreturn, 1) := by decide +kernel
theorem dX6_best_26 : decode cX6_best 26 = .ok (.aload_n 0, 1) := by decide +kernel
theorem dX6_best_27 : decode cX6_best 27 = .ok (.invokevirtual 211, 3) := by decide +kernel
theorem dX6_best_30 : decode cX6_best 30 = .ok (.istore_n 3, 1) := by decide +kernel
theorem dX6_best_31 : decode cX6_best 31 = .ok (.iload_n 3, 1) := by decide +kernel
theorem dX6_best_32 : decode cX6_best 32 = .ok (.ifCond .ne 9, 3) := by decide +kernel
theorem dX6_best_35 : decode cX6_best 35 = .ok (.ldc2_w 218, 3) := by decide +kernel
theorem dX6_best_38 : decode cX6_best 38 = .ok (.goto 18, 3) := by decide +kernel
theorem dX6_best_41 : decode cX6_best 41 = .ok (.aload_n 0, 1) := by decide +kernel
theorem dX6_best_42 : decode cX6_best 42 = .ok (.iload_n 1, 1) := by decide +kernel
theorem dX6_best_43 : decode cX6_best 43 = .ok (.iload_n 3, 1) := by decide +kernel
theorem dX6_best_44 : decode cX6_best 44 = .ok (.invokevirtual 251, 3) := by decide +kernel
theorem dX6_best_47 : decode cX6_best 47 = .ok (.aload_n 0, 1) := by decide +kernel
theorem dX6_best_48 : decode cX6_best 48 = .ok (.iload_n 3, 1) := by decide +kernel
theorem dX6_best_49 : decode cX6_best 49 = .ok (.invokevirtual 223, 3) := by decide +kernel
theorem dX6_best_52 : decode cX6_best 52 = .ok (.iload_n 2, 1) := by decide +kernel
theorem dX6_best_53 : decode cX6_best 53 = .ok (.invokestatic 227, 3) := by decide +kernel
theorem dX6_best_56 : decode cX6_best 56 = .ok (.lreturn, 1) := by decide +kernel
theorem dX6_choice_0 : decode cX6_choice 0 = .ok (.iload_n 1, 1) := by decide +kernel
theorem dX6_choice_1 : decode cX6_choice 1 = .ok (.i2l, 1) := by decide +kernel
theorem dX6_choice_2 : decode cX6_choice 2 = .ok (.lconst 1, 1) := by decide +kernel
theorem dX6_choice_3 : decode cX6_choice 3 = .ok (.ldc2_w 109, 3) := by decide +kernel
theorem dX6_choice_6 : decode cX6_choice 6 = .ok (.invokestatic 53, 3) := by decide +kernel
theorem dX6_choice_9 : decode cX6_choice 9 = .ok (.ifCond .eq 10, 3) := by decide +kernel
theorem dX6_choice_12 : decode cX6_choice 12 = .ok (.iload_n 2, 1) := by decide +kernel
theorem dX6_choice_13 : decode cX6_choice 13 = .ok (.invokestatic 163, 3) := by decide +kernel
theorem dX6_choice_16 : decode cX6_choice 16 = .ok (.ifCond .ne 5, 3) := by decide +kernel
theorem dX6_choice_19 : decode cX6_choice 19 = .ok (.iconst (-1), 1) := by decide +kernel
theorem dX6_choice_20 : decode cX6_choice 20 = .ok (.ireturn, 1) := by decide +kernel
theorem dX6_choice_21 : decode cX6_choice 21 = .ok (.aload_n 0, 1) := by decide +kernel
theorem dX6_choice_22 : decode cX6_choice 22 = .ok (.invokevirtual 211, 3) := by decide +kernel
theorem dX6_choice_25 : decode cX6_choice 25 = .ok (.istore_n 3, 1) := by decide +kernel
theorem dX6_choice_26 : decode cX6_choice 26 = .ok (.iload_n 3, 1) := by decide +kernel
theorem dX6_choice_27 : decode cX6_choice 27 = .ok (.ifCond .eq 15, 3) := by decide +kernel
theorem dX6_choice_30 : decode cX6_choice 30 = .ok (.aload_n 0, 1) := by decide +kernel
theorem dX6_choice_31 : decode cX6_choice 31 = .ok (.getfield 7, 3) := by decide +kernel
theorem dX6_choice_34 : decode cX6_choice 34 = .ok (.bipush 21, 2) := by decide +kernel
theorem dX6_choice_36 : decode cX6_choice 36 = .ok (.iaload, 1) := by decide +kernel
theorem dX6_choice_37 : decode cX6_choice 37 = .ok (.bipush 8, 2) := by decide +kernel
theorem dX6_choice_39 : decode cX6_choice 39 = .ok (.if_icmp .ne 6, 3) := by decide +kernel
theorem dX6_choice_42 : decode cX6_choice 42 = .ok (.bipush (-2), 2) := by decide +kernel
theorem dX6_choice_44 : decode cX6_choice 44 = .ok (.ireturn, 1) := by decide +kernel
theorem dX6_choice_45 : decode cX6_choice 45 = .ok (.aload_n 0, 1) := by decide +kernel
theorem dX6_choice_46 : decode cX6_choice 46 = .ok (.iload_n 3, 1) := by decide +kernel
theorem dX6_choice_47 : decode cX6_choice 47 = .ok (.aload_n 0, 1) := by decide +kernel
theorem dX6_choice_48 : decode cX6_choice 48 = .ok (.getfield 7, 3) := by decide +kernel
theorem dX6_choice_51 : decode cX6_choice 51 = .ok (.bipush 21, 2) := by decide +kernel
theorem dX6_choice_53 : decode cX6_choice 53 = .ok (.iaload, 1) := by decide +kernel
theorem dX6_choice_54 : decode cX6_choice 54 = .ok (.iload_n 2, 1) := by decide +kernel
theorem dX6_choice_55 : decode cX6_choice 55 = .ok (.invokevirtual 220, 3) := by decide +kernel
theorem dX6_choice_58 : decode cX6_choice 58 = .ok (.istore 4, 2) := by decide +kernel
theorem dX6_choice_60 : decode cX6_choice 60 = .ok (.iload 4, 2) := by decide +kernel
theorem dX6_choice_62 : decode cX6_choice 62 = .ok (.ifCond .ne 6, 3) := by decide +kernel
theorem dX6_choice_65 : decode cX6_choice 65 = .ok (.bipush (-4), 2) := by decide +kernel
theorem dX6_choice_67 : decode cX6_choice 67 = .ok (.ireturn, 1) := by decide +kernel
theorem dX6_choice_68 : decode cX6_choice 68 = .ok (.aload_n 0, 1) := by decide +kernel
theorem dX6_choice_69 : decode cX6_choice 69 = .ok (.iload_n 1, 1) := by decide +kernel
theorem dX6_choice_70 : decode cX6_choice 70 = .ok (.invokevirtual 245, 3) := by decide +kernel
theorem dX6_choice_73 : decode cX6_choice 73 = .ok (.istore 5, 2) := by decide +kernel
theorem dX6_choice_75 : decode cX6_choice 75 = .ok (.aload_n 0, 1) := by decide +kernel
theorem dX6_choice_76 : decode cX6_choice 76 = .ok (.iload 5, 2) := by decide +kernel
theorem dX6_choice_78 : decode cX6_choice 78 = .ok (.invokevirtual 248, 3) := by decide +kernel
theorem dX6_choice_81 : decode cX6_choice 81 = .ok (.aload_n 0, 1) := by decide +kernel
theorem dX6_choice_82 : decode cX6_choice 82 = .ok (.aload_n 0, 1) := by decide +kernel
theorem dX6_choice_83 : decode cX6_choice 83 = .ok (.getfield 7, 3) := by decide +kernel
theorem dX6_choice_86 : decode cX6_choice 86 = .ok (.bipush 21, 2) := by decide +kernel
theorem dX6_choice_88 : decode cX6_choice 88 = .ok (.iaload, 1) := by decide +kernel
theorem dX6_choice_89 : decode cX6_choice 89 = .ok (.iload 5, 2) := by decide +kernel
theorem dX6_choice_91 : decode cX6_choice 91 = .ok (.iload_n 3, 1) := by decide +kernel
theorem dX6_choice_92 : decode cX6_choice 92 = .ok (.aload_n 0, 1) := by decide +kernel
theorem dX6_choice_93 : decode cX6_choice 93 = .ok (.getfield 7, 3) := by decide +kernel
theorem dX6_choice_96 : decode cX6_choice 96 = .ok (.bipush 16, 2) := by decide +kernel
theorem dX6_choice_98 : decode cX6_choice 98 = .ok (.iaload, 1) := by decide +kernel
theorem dX6_choice_99 : decode cX6_choice 99 = .ok (.iload_n 2, 1) := by decide +kernel
theorem dX6_choice_100 : decode cX6_choice 100 = .ok (.invokevirtual 241, 3) := by decide +kernel
theorem dX6_choice_103 : decode cX6_choice 103 = .ok (.lstore 6, 2) := by decide +kernel
theorem dX6_choice_105 : decode cX6_choice 105 = .ok (.iconst 0, 1) := by decide +kernel
theorem dX6_choice_106 : decode cX6_choice 106 = .ok (.istore 8, 2) := by decide +kernel
theorem dX6_choice_108 : decode cX6_choice 108 = .ok (.aload_n 0, 1) := by decide +kernel
theorem dX6_choice_109 : decode cX6_choice 109 = .ok (.aload_n 0, 1) := by decide +kernel
theorem dX6_choice_110 : decode cX6_choice 110 = .ok (.getfield 7, 3) := by decide +kernel
theorem dX6_choice_113 : decode cX6_choice 113 = .ok (.bipush 21, 2) := by decide +kernel
theorem dX6_choice_115 : decode cX6_choice 115 = .ok (.iaload, 1) := by decide +kernel
theorem dX6_choice_116 : decode cX6_choice 116 = .ok (.iload 5, 2) := by decide +kernel
theorem dX6_choice_118 : decode cX6_choice 118 = .ok (.iload 4, 2) := by decide +kernel
theorem dX6_choice_120 : decode cX6_choice 120 = .ok (.aload_n 0, 1) := by decide +kernel
theorem dX6_choice_121 : decode cX6_choice 121 = .ok (.getfield 7, 3) := by decide +kernel
theorem dX6_choice_124 : decode cX6_choice 124 = .ok (.bipush 16, 2) := by decide +kernel
theorem dX6_choice_126 : decode cX6_choice 126 = .ok (.iaload, 1) := by decide +kernel
theorem dX6_choice_127 : decode cX6_choice 127 = .ok (.iload_n 2, 1) := by decide +kernel
theorem dX6_choice_128 : decode cX6_choice 128 = .ok (.iload 8, 2) := by decide +kernel
theorem dX6_choice_130 : decode cX6_choice 130 = .ok (.invokevirtual 234, 3) := by decide +kernel
theorem dX6_choice_133 : decode cX6_choice 133 = .ok (.lload 6, 2) := by decide +kernel
theorem dX6_choice_135 : decode cX6_choice 135 = .ok (.lcmp, 1) := by decide +kernel
theorem dX6_choice_136 : decode cX6_choice 136 = .ok (.ifCond .eq 9, 3) := by decide +kernel
theorem dX6_choice_139 : decode cX6_choice 139 = .ok (.iinc 8 1, 3) := by decide +kernel
theorem dX6_choice_142 : decode cX6_choice 142 = .ok (.goto (-34), 3) := by decide +kernel
theorem dX6_choice_145 : decode cX6_choice 145 = .ok (.iload 8, 2) := by decide +kernel
theorem dX6_choice_147 : decode cX6_choice 147 = .ok (.ireturn, 1) := by decide +kernel
theorem dX6_knowing_0 : decode cX6_knowing 0 = .ok (.iload_n 1, 1) := by decide +kernel
theorem dX6_knowing_1 : decode cX6_knowing 1 = .ok (.i2l, 1) := by decide +kernel
theorem dX6_knowing_2 : decode cX6_knowing 2 = .ok (.lconst 0, 1) := by decide +kernel
theorem dX6_knowing_3 : decode cX6_knowing 3 = .ok (.ldc2_w 109, 3) := by decide +kernel
theorem dX6_knowing_6 : decode cX6_knowing 6 = .ok (.invokestatic 53, 3) := by decide +kernel
theorem dX6_knowing_9 : decode cX6_knowing 9 = .ok (.ifCond .eq 13, 3) := by decide +kernel
theorem dX6_knowing_12 : decode cX6_knowing 12 = .ok (.iload_n 2, 1) := by decide +kernel
theorem dX6_knowing_13 : decode cX6_knowing 13 = .ok (.i2l, 1) := by decide +kernel
theorem dX6_knowing_14 : decode cX6_knowing 14 = .ok (.lconst 0, 1) := by decide +kernel
theorem dX6_knowing_15 : decode cX6_knowing 15 = .ok (.lconst 1, 1) := by decide +kernel
theorem dX6_knowing_16 : decode cX6_knowing 16 = .ok (.invokestatic 53, 3) := by decide +kernel
theorem dX6_knowing_19 : decode cX6_knowing 19 = .ok (.ifCond .ne 7, 3) := by decide +kernel
theorem dX6_knowing_22 : decode cX6_knowing 22 = .ok (.ldc2_w 216, 3) := by decide +kernel
theorem dX6_knowing_25 : decode cX6_knowing 25 = .ok (.lreturn, 1) := by decide +kernel
theorem dX6_knowing_26 : decode cX6_knowing 26 = .ok (.aload_n 0, 1) := by decide +kernel
theorem dX6_knowing_27 : decode cX6_knowing 27 = .ok (.invokevirtual 211, 3) := by decide +kernel
theorem dX6_knowing_30 : decode cX6_knowing 30 = .ok (.istore_n 3, 1) := by decide +kernel
theorem dX6_knowing_31 : decode cX6_knowing 31 = .ok (.iload_n 3, 1) := by decide +kernel
theorem dX6_knowing_32 : decode cX6_knowing 32 = .ok (.ifCond .ne 7, 3) := by decide +kernel
theorem dX6_knowing_35 : decode cX6_knowing 35 = .ok (.ldc2_w 218, 3) := by decide +kernel
theorem dX6_knowing_38 : decode cX6_knowing 38 = .ok (.lreturn, 1) := by decide +kernel
theorem dX6_knowing_39 : decode cX6_knowing 39 = .ok (.aload_n 0, 1) := by decide +kernel
theorem dX6_knowing_40 : decode cX6_knowing 40 = .ok (.iload_n 1, 1) := by decide +kernel
theorem dX6_knowing_41 : decode cX6_knowing 41 = .ok (.iload_n 3, 1) := by decide +kernel
theorem dX6_knowing_42 : decode cX6_knowing 42 = .ok (.invokevirtual 251, 3) := by decide +kernel
theorem dX6_knowing_45 : decode cX6_knowing 45 = .ok (.lneg, 1) := by decide +kernel
theorem dX6_knowing_46 : decode cX6_knowing 46 = .ok (.lstore 4, 2) := by decide +kernel
theorem dX6_knowing_48 : decode cX6_knowing 48 = .ok (.iconst 0, 1) := by decide +kernel
theorem dX6_knowing_49 : decode cX6_knowing 49 = .ok (.istore 6, 2) := by decide +kernel
theorem dX6_knowing_51 : decode cX6_knowing 51 = .ok (.iload 6, 2) := by decide +kernel
theorem dX6_knowing_53 : decode cX6_knowing 53 = .ok (.aload_n 0, 1) := by decide +kernel
theorem dX6_knowing_54 : decode cX6_knowing 54 = .ok (.getfield 132, 3) := by decide +kernel
theorem dX6_knowing_57 : decode cX6_knowing 57 = .ok (.if_icmp .ge 37, 3) := by decide +kernel
theorem dX6_knowing_60 : decode cX6_knowing 60 = .ok (.lload 4, 2) := by decide +kernel
theorem dX6_knowing_62 : decode cX6_knowing 62 = .ok (.iload_n 3, 1) := by decide +kernel
theorem dX6_knowing_63 : decode cX6_knowing 63 = .ok (.iload 6, 2) := by decide +kernel
theorem dX6_knowing_65 : decode cX6_knowing 65 = .ok (.ishr, 1) := by decide +kernel
theorem dX6_knowing_66 : decode cX6_knowing 66 = .ok (.iconst 1, 1) := by decide +kernel
theorem dX6_knowing_67 : decode cX6_knowing 67 = .ok (.iand, 1) := by decide +kernel
theorem dX6_knowing_68 : decode cX6_knowing 68 = .ok (.iconst 1, 1) := by decide +kernel
theorem dX6_knowing_69 : decode cX6_knowing 69 = .ok (.if_icmp .ne 15, 3) := by decide +kernel
theorem dX6_knowing_72 : decode cX6_knowing 72 = .ok (.aload_n 0, 1) := by decide +kernel
theorem dX6_knowing_73 : decode cX6_knowing 73 = .ok (.iload_n 1, 1) := by decide +kernel
theorem dX6_knowing_74 : decode cX6_knowing 74 = .ok (.iconst 1, 1) := by decide +kernel
theorem dX6_knowing_75 : decode cX6_knowing 75 = .ok (.iload 6, 2) := by decide +kernel
theorem dX6_knowing_77 : decode cX6_knowing 77 = .ok (.ishl, 1) := by decide +kernel
theorem dX6_knowing_78 : decode cX6_knowing 78 = .ok (.invokevirtual 251, 3) := by decide +kernel
theorem dX6_knowing_81 : decode cX6_knowing 81 = .ok (.goto 4, 3) := by decide +kernel
theorem dX6_knowing_84 : decode cX6_knowing 84 = .ok (.lconst 0, 1) := by decide +kernel
theorem dX6_knowing_85 : decode cX6_knowing 85 = .ok (.ladd, 1) := by decide +kernel
theorem dX6_knowing_86 : decode cX6_knowing 86 = .ok (.lstore 4, 2) := by decide +kernel
theorem dX6_knowing_88 : decode cX6_knowing 88 = .ok (.iinc 6 1, 3) := by decide +kernel
theorem dX6_knowing_91 : decode cX6_knowing 91 = .ok (.goto (-40), 3) := by decide +kernel
theorem dX6_knowing_94 : decode cX6_knowing 94 = .ok (.lload 4, 2) := by decide +kernel
theorem dX6_knowing_96 : decode cX6_knowing 96 = .ok (.aload_n 0, 1) := by decide +kernel
theorem dX6_knowing_97 : decode cX6_knowing 97 = .ok (.iload_n 3, 1) := by decide +kernel
theorem dX6_knowing_98 : decode cX6_knowing 98 = .ok (.invokevirtual 223, 3) := by decide +kernel
theorem dX6_knowing_101 : decode cX6_knowing 101 = .ok (.iload_n 2, 1) := by decide +kernel
theorem dX6_knowing_102 : decode cX6_knowing 102 = .ok (.invokestatic 227, 3) := by decide +kernel
theorem dX6_knowing_105 : decode cX6_knowing 105 = .ok (.lreturn, 1) := by decide +kernel
theorem dX6_worth_0 : decode cX6_worth 0 = .ok (.aload_n 0, 1) := by decide +kernel
theorem dX6_worth_1 : decode cX6_worth 1 = .ok (.iload_n 1, 1) := by decide +kernel
theorem dX6_worth_2 : decode cX6_worth 2 = .ok (.invokevirtual 149, 3) := by decide +kernel
theorem dX6_worth_5 : decode cX6_worth 5 = .ok (.ifCond .eq 25, 3) := by decide +kernel
theorem dX6_worth_8 : decode cX6_worth 8 = .ok (.iload_n 2, 1) := by decide +kernel
theorem dX6_worth_9 : decode cX6_worth 9 = .ok (.i2l, 1) := by decide +kernel
theorem dX6_worth_10 : decode cX6_worth 10 = .ok (.lconst 0, 1) := by decide +kernel
theorem dX6_worth_11 : decode cX6_worth 11 = .ok (.ldc2_w 109, 3) := by decide +kernel
theorem dX6_worth_14 : decode cX6_worth 14 = .ok (.invokestatic 53, 3) := by decide +kernel
theorem dX6_worth_17 : decode cX6_worth 17 = .ok (.ifCond .eq 13, 3) := by decide +kernel
theorem dX6_worth_20 : decode cX6_worth 20 = .ok (.iload_n 3, 1) := by decide +kernel
theorem dX6_worth_21 : decode cX6_worth 21 = .ok (.i2l, 1) := by decide +kernel
theorem dX6_worth_22 : decode cX6_worth 22 = .ok (.lconst 0, 1) := by decide +kernel
theorem dX6_worth_23 : decode cX6_worth 23 = .ok (.lconst 1, 1) := by decide +kernel
theorem dX6_worth_24 : decode cX6_worth 24 = .ok (.invokestatic 53, 3) := by decide +kernel
theorem dX6_worth_27 : decode cX6_worth 27 = .ok (.ifCond .ne 7, 3) := by decide +kernel
theorem dX6_worth_30 : decode cX6_worth 30 = .ok (.ldc2_w 216, 3) := by decide +kernel
theorem dX6_worth_33 : decode cX6_worth 33 = .ok (.lreturn, 1) := by decide +kernel
theorem dX6_worth_34 : decode cX6_worth 34 = .ok (.aload_n 0, 1) := by decide +kernel
theorem dX6_worth_35 : decode cX6_worth 35 = .ok (.invokevirtual 211, 3) := by decide +kernel
theorem dX6_worth_38 : decode cX6_worth 38 = .ok (.istore 4, 2) := by decide +kernel
theorem dX6_worth_40 : decode cX6_worth 40 = .ok (.iload 4, 2) := by decide +kernel
theorem dX6_worth_42 : decode cX6_worth 42 = .ok (.ifCond .ne 7, 3) := by decide +kernel
theorem dX6_worth_45 : decode cX6_worth 45 = .ok (.ldc2_w 218, 3) := by decide +kernel
theorem dX6_worth_48 : decode cX6_worth 48 = .ok (.lreturn, 1) := by decide +kernel
theorem dX6_worth_49 : decode cX6_worth 49 = .ok (.aload_n 0, 1) := by decide +kernel
theorem dX6_worth_50 : decode cX6_worth 50 = .ok (.iload_n 2, 1) := by decide +kernel
theorem dX6_worth_51 : decode cX6_worth 51 = .ok (.iload 4, 2) := by decide +kernel
theorem dX6_worth_53 : decode cX6_worth 53 = .ok (.invokevirtual 251, 3) := by decide +kernel
theorem dX6_worth_56 : decode cX6_worth 56 = .ok (.lstore 5, 2) := by decide +kernel
theorem dX6_worth_58 : decode cX6_worth 58 = .ok (.aload_n 0, 1) := by decide +kernel
theorem dX6_worth_59 : decode cX6_worth 59 = .ok (.getfield 7, 3) := by decide +kernel
theorem dX6_worth_62 : decode cX6_worth 62 = .ok (.iconst 2, 1) := by decide +kernel
theorem dX6_worth_63 : decode cX6_worth 63 = .ok (.iload_n 1, 1) := by decide +kernel
theorem dX6_worth_64 : decode cX6_worth 64 = .ok (.imul, 1) := by decide +kernel
theorem dX6_worth_65 : decode cX6_worth 65 = .ok (.iaload, 1) := by decide +kernel
theorem dX6_worth_66 : decode cX6_worth 66 = .ok (.istore 7, 2) := by decide +kernel
theorem dX6_worth_68 : decode cX6_worth 68 = .ok (.aload_n 0, 1) := by decide +kernel
theorem dX6_worth_69 : decode cX6_worth 69 = .ok (.getfield 7, 3) := by decide +kernel
theorem dX6_worth_72 : decode cX6_worth 72 = .ok (.iconst 2, 1) := by decide +kernel
theorem dX6_worth_73 : decode cX6_worth 73 = .ok (.iload_n 1, 1) := by decide +kernel
theorem dX6_worth_74 : decode cX6_worth 74 = .ok (.imul, 1) := by decide +kernel
theorem dX6_worth_75 : decode cX6_worth 75 = .ok (.iconst 1, 1) := by decide +kernel
theorem dX6_worth_76 : decode cX6_worth 76 = .ok (.iadd, 1) := by decide +kernel
theorem dX6_worth_77 : decode cX6_worth 77 = .ok (.iaload, 1) := by decide +kernel
theorem dX6_worth_78 : decode cX6_worth 78 = .ok (.istore 8, 2) := by decide +kernel
theorem dX6_worth_80 : decode cX6_worth 80 = .ok (.aload_n 0, 1) := by decide +kernel
theorem dX6_worth_81 : decode cX6_worth 81 = .ok (.getfield 7, 3) := by decide +kernel
theorem dX6_worth_84 : decode cX6_worth 84 = .ok (.iconst 2, 1) := by decide +kernel
theorem dX6_worth_85 : decode cX6_worth 85 = .ok (.iload_n 1, 1) := by decide +kernel
theorem dX6_worth_86 : decode cX6_worth 86 = .ok (.imul, 1) := by decide +kernel
theorem dX6_worth_87 : decode cX6_worth 87 = .ok (.iconst 0, 1) := by decide +kernel
theorem dX6_worth_88 : decode cX6_worth 88 = .ok (.iastore, 1) := by decide +kernel
theorem dX6_worth_89 : decode cX6_worth 89 = .ok (.aload_n 0, 1) := by decide +kernel
theorem dX6_worth_90 : decode cX6_worth 90 = .ok (.getfield 7, 3) := by decide +kernel
theorem dX6_worth_93 : decode cX6_worth 93 = .ok (.iconst 2, 1) := by decide +kernel
theorem dX6_worth_94 : decode cX6_worth 94 = .ok (.iload_n 1, 1) := by decide +kernel
theorem dX6_worth_95 : decode cX6_worth 95 = .ok (.imul, 1) := by decide +kernel
theorem dX6_worth_96 : decode cX6_worth 96 = .ok (.iconst 1, 1) := by decide +kernel
theorem dX6_worth_97 : decode cX6_worth 97 = .ok (.iadd, 1) := by decide +kernel
theorem dX6_worth_98 : decode cX6_worth 98 = .ok (.iconst 0, 1) := by decide +kernel
theorem dX6_worth_99 : decode cX6_worth 99 = .ok (.iastore, 1) := by decide +kernel
theorem dX6_worth_100 : decode cX6_worth 100 = .ok (.aload_n 0, 1) := by decide +kernel
theorem dX6_worth_101 : decode cX6_worth 101 = .ok (.iload_n 2, 1) := by decide +kernel
theorem dX6_worth_102 : decode cX6_worth 102 = .ok (.iload 4, 2) := by decide +kernel
theorem dX6_worth_104 : decode cX6_worth 104 = .ok (.invokevirtual 251, 3) := by decide +kernel
theorem dX6_worth_107 : decode cX6_worth 107 = .ok (.lstore 9, 2) := by decide +kernel
theorem dX6_worth_109 : decode cX6_worth 109 = .ok (.aload_n 0, 1) := by decide +kernel
theorem dX6_worth_110 : decode cX6_worth 110 = .ok (.getfield 7, 3) := by decide +kernel
theorem dX6_worth_113 : decode cX6_worth 113 = .ok (.iconst 2, 1) := by decide +kernel
theorem dX6_worth_114 : decode cX6_worth 114 = .ok (.iload_n 1, 1) := by decide +kernel
theorem dX6_worth_115 : decode cX6_worth 115 = .ok (.imul, 1) := by decide +kernel
theorem dX6_worth_116 : decode cX6_worth 116 = .ok (.iload 7, 2) := by decide +kernel
theorem dX6_worth_118 : decode cX6_worth 118 = .ok (.iastore, 1) := by decide +kernel
theorem dX6_worth_119 : decode cX6_worth 119 = .ok (.aload_n 0, 1) := by decide +kernel
theorem dX6_worth_120 : decode cX6_worth 120 = .ok (.getfield 7, 3) := by decide +kernel
theorem dX6_worth_123 : decode cX6_worth 123 = .ok (.iconst 2, 1) := by decide +kernel
theorem dX6_worth_124 : decode cX6_worth 124 = .ok (.iload_n 1, 1) := by decide +kernel
theorem dX6_worth_125 : decode cX6_worth 125 = .ok (.imul, 1) := by decide +kernel
theorem dX6_worth_126 : decode cX6_worth 126 = .ok (.iconst 1, 1) := by decide +kernel
theorem dX6_worth_127 : decode cX6_worth 127 = .ok (.iadd, 1) := by decide +kernel
theorem dX6_worth_128 : decode cX6_worth 128 = .ok (.iload 8, 2) := by decide +kernel
theorem dX6_worth_130 : decode cX6_worth 130 = .ok (.iastore, 1) := by decide +kernel
theorem dX6_worth_131 : decode cX6_worth 131 = .ok (.lload 5, 2) := by decide +kernel
theorem dX6_worth_133 : decode cX6_worth 133 = .ok (.lload 9, 2) := by decide +kernel
theorem dX6_worth_135 : decode cX6_worth 135 = .ok (.lsub, 1) := by decide +kernel
theorem dX6_worth_136 : decode cX6_worth 136 = .ok (.aload_n 0, 1) := by decide +kernel
theorem dX6_worth_137 : decode cX6_worth 137 = .ok (.iload 4, 2) := by decide +kernel
theorem dX6_worth_139 : decode cX6_worth 139 = .ok (.invokevirtual 223, 3) := by decide +kernel
theorem dX6_worth_142 : decode cX6_worth 142 = .ok (.iload_n 3, 1) := by decide +kernel
theorem dX6_worth_143 : decode cX6_worth 143 = .ok (.invokestatic 227, 3) := by decide +kernel
theorem dX6_worth_146 : decode cX6_worth 146 = .ok (.lreturn, 1) := by decide +kernel
theorem dX6_isSafe_0 : decode cX6_isSafe 0 = .ok (.iconst 1, 1) := by decide +kernel
theorem dX6_isSafe_1 : decode cX6_isSafe 1 = .ok (.istore_n 1, 1) := by decide +kernel
theorem dX6_isSafe_2 : decode cX6_isSafe 2 = .ok (.iconst 0, 1) := by decide +kernel
theorem dX6_isSafe_3 : decode cX6_isSafe 3 = .ok (.istore_n 2, 1) := by decide +kernel
theorem dX6_isSafe_4 : decode cX6_isSafe 4 = .ok (.iload_n 2, 1) := by decide +kernel
theorem dX6_isSafe_5 : decode cX6_isSafe 5 = .ok (.aload_n 0, 1) := by decide +kernel
theorem dX6_isSafe_6 : decode cX6_isSafe 6 = .ok (.getfield 132, 3) := by decide +kernel
theorem dX6_isSafe_9 : decode cX6_isSafe 9 = .ok (.if_icmp .ge 45, 3) := by decide +kernel
theorem dX6_isSafe_12 : decode cX6_isSafe 12 = .ok (.aload_n 0, 1) := by decide +kernel
theorem dX6_isSafe_13 : decode cX6_isSafe 13 = .ok (.iload_n 2, 1) := by decide +kernel
theorem dX6_isSafe_14 : decode cX6_isSafe 14 = .ok (.invokevirtual 160, 3) := by decide +kernel
theorem dX6_isSafe_17 : decode cX6_isSafe 17 = .ok (.ifCond .eq 31, 3) := by decide +kernel
theorem dX6_isSafe_20 : decode cX6_isSafe 20 = .ok (.aload_n 0, 1) := by decide +kernel
theorem dX6_isSafe_21 : decode cX6_isSafe 21 = .ok (.bipush 75, 2) := by decide +kernel
theorem dX6_isSafe_23 : decode cX6_isSafe 23 = .ok (.bipush 100, 2) := by decide +kernel
theorem dX6_isSafe_25 : decode cX6_isSafe 25 = .ok (.invokevirtual 201, 3) := by decide +kernel
theorem dX6_isSafe_28 : decode cX6_isSafe 28 = .ok (.iload_n 1, 1) := by decide +kernel
theorem dX6_isSafe_29 : decode cX6_isSafe 29 = .ok (.ifCond .eq 17, 3) := by decide +kernel
theorem dX6_isSafe_32 : decode cX6_isSafe 32 = .ok (.aload_n 0, 1) := by decide +kernel
theorem dX6_isSafe_33 : decode cX6_isSafe 33 = .ok (.iload_n 2, 1) := by decide +kernel
theorem dX6_isSafe_34 : decode cX6_isSafe 34 = .ok (.invokevirtual 208, 3) := by decide +kernel
theorem dX6_isSafe_37 : decode cX6_isSafe 37 = .ok (.bipush (-4), 2) := by decide +kernel
theorem dX6_isSafe_39 : decode cX6_isSafe 39 = .ok (.if_icmp .ne 7, 3) := by decide +kernel
theorem dX6_isSafe_42 : decode cX6_isSafe 42 = .ok (.iconst 1, 1) := by decide +kernel
theorem dX6_isSafe_43 : decode cX6_isSafe 43 = .ok (.goto 4, 3) := by decide +kernel
theorem dX6_isSafe_46 : decode cX6_isSafe 46 = .ok (.iconst 0, 1) := by decide +kernel
theorem dX6_isSafe_47 : decode cX6_isSafe 47 = .ok (.istore_n 1, 1) := by decide +kernel
theorem dX6_isSafe_48 : decode cX6_isSafe 48 = .ok (.iinc 2 1, 3) := by decide +kernel
theorem dX6_isSafe_51 : decode cX6_isSafe 51 = .ok (.goto (-47), 3) := by decide +kernel
theorem dX6_isSafe_54 : decode cX6_isSafe 54 = .ok (.iload_n 1, 1) := by decide +kernel
theorem dX6_isSafe_55 : decode cX6_isSafe 55 = .ok (.ireturn, 1) := by decide +kernel
theorem dX6_safe_0 : decode cX6_safe 0 = .ok (.iload_n 1, 1) := by decide +kernel
theorem dX6_safe_1 : decode cX6_safe 1 = .ok (.i2l, 1) := by decide +kernel
theorem dX6_safe_2 : decode cX6_safe 2 = .ok (.lconst 0, 1) := by decide +kernel
theorem dX6_safe_3 : decode cX6_safe 3 = .ok (.ldc2_w 177, 3) := by decide +kernel
theorem dX6_safe_6 : decode cX6_safe 6 = .ok (.invokestatic 53, 3) := by decide +kernel
theorem dX6_safe_9 : decode cX6_safe 9 = .ok (.ifCond .ne 5, 3) := by decide +kernel
theorem dX6_safe_12 : decode cX6_safe 12 = .ok (.iconst (-1), 1) := by decide +kernel
theorem dX6_safe_13 : decode cX6_safe 13 = .ok (.ireturn, 1) := by decide +kernel
theorem dX6_safe_14 : decode cX6_safe 14 = .ok (.iconst 0, 1) := by decide +kernel
theorem dX6_safe_15 : decode cX6_safe 15 = .ok (.istore_n 2, 1) := by decide +kernel
theorem dX6_safe_16 : decode cX6_safe 16 = .ok (.aload_n 0, 1) := by decide +kernel
theorem dX6_safe_17 : decode cX6_safe 17 = .ok (.iconst 0, 1) := by decide +kernel
theorem dX6_safe_18 : decode cX6_safe 18 = .ok (.bipush 75, 2) := by decide +kernel
theorem dX6_safe_20 : decode cX6_safe 20 = .ok (.invokevirtual 201, 3) := by decide +kernel
theorem dX6_safe_23 : decode cX6_safe 23 = .ok (.aload_n 0, 1) := by decide +kernel
theorem dX6_safe_24 : decode cX6_safe 24 = .ok (.getfield 7, 3) := by decide +kernel
theorem dX6_safe_27 : decode cX6_safe 27 = .ok (.bipush 94, 2) := by decide +kernel
theorem dX6_safe_29 : decode cX6_safe 29 = .ok (.iload_n 1, 1) := by decide +kernel
theorem dX6_safe_30 : decode cX6_safe 30 = .ok (.iastore, 1) := by decide +kernel
theorem dX6_safe_31 : decode cX6_safe 31 = .ok (.iconst 0, 1) := by decide +kernel
theorem dX6_safe_32 : decode cX6_safe 32 = .ok (.istore_n 3, 1) := by decide +kernel
theorem dX6_safe_33 : decode cX6_safe 33 = .ok (.iload_n 3, 1) := by decide +kernel
theorem dX6_safe_34 : decode cX6_safe 34 = .ok (.bipush 10, 2) := by decide +kernel
theorem dX6_safe_36 : decode cX6_safe 36 = .ok (.if_icmp .ge 34, 3) := by decide +kernel
theorem dX6_safe_39 : decode cX6_safe 39 = .ok (.aload_n 0, 1) := by decide +kernel
theorem dX6_safe_40 : decode cX6_safe 40 = .ok (.getfield 7, 3) := by decide +kernel
theorem dX6_safe_43 : decode cX6_safe 43 = .ok (.bipush 95, 2) := by decide +kernel
theorem dX6_safe_45 : decode cX6_safe 45 = .ok (.iload_n 3, 1) := by decide +kernel
theorem dX6_safe_46 : decode cX6_safe 46 = .ok (.iastore, 1) := by decide +kernel
theorem dX6_safe_47 : decode cX6_safe 47 = .ok (.iload_n 2, 1) := by decide +kernel
theorem dX6_safe_48 : decode cX6_safe 48 = .ok (.aload_n 0, 1) := by decide +kernel
theorem dX6_safe_49 : decode cX6_safe 49 = .ok (.invokevirtual 255, 3) := by decide +kernel
theorem dX6_safe_52 : decode cX6_safe 52 = .ok (.ifCond .eq 9, 3) := by decide +kernel
theorem dX6_safe_55 : decode cX6_safe 55 = .ok (.iconst 1, 1) := by decide +kernel
theorem dX6_safe_56 : decode cX6_safe 56 = .ok (.iload_n 3, 1) := by decide +kernel
theorem dX6_safe_57 : decode cX6_safe 57 = .ok (.ishl, 1) := by decide +kernel
theorem dX6_safe_58 : decode cX6_safe 58 = .ok (.goto 4, 3) := by decide +kernel
theorem dX6_safe_61 : decode cX6_safe 61 = .ok (.iconst 0, 1) := by decide +kernel
theorem dX6_safe_62 : decode cX6_safe 62 = .ok (.ior, 1) := by decide +kernel
theorem dX6_safe_63 : decode cX6_safe 63 = .ok (.istore_n 2, 1) := by decide +kernel
theorem dX6_safe_64 : decode cX6_safe 64 = .ok (.iinc 3 1, 3) := by decide +kernel
theorem dX6_safe_67 : decode cX6_safe 67 = .ok (.goto (-34), 3) := by decide +kernel
theorem dX6_safe_70 : decode cX6_safe 70 = .ok (.iload_n 2, 1) := by decide +kernel
theorem dX6_safe_71 : decode cX6_safe 71 = .ok (.ireturn, 1) := by decide +kernel
theorem dX6_granary_0 : decode cX6_granary 0 = .ok (.aload_n 0, 1) := by decide +kernel
theorem dX6_granary_1 : decode cX6_granary 1 = .ok (.iconst 0, 1) := by decide +kernel
theorem dX6_granary_2 : decode cX6_granary 2 = .ok (.bipush 75, 2) := by decide +kernel
theorem dX6_granary_4 : decode cX6_granary 4 = .ok (.invokevirtual 201, 3) := by decide +kernel
theorem dX6_granary_7 : decode cX6_granary 7 = .ok (.aload_n 0, 1) := by decide +kernel
theorem dX6_granary_8 : decode cX6_granary 8 = .ok (.getfield 7, 3) := by decide +kernel
theorem dX6_granary_11 : decode cX6_granary 11 = .ok (.bipush 94, 2) := by decide +kernel
theorem dX6_granary_13 : decode cX6_granary 13 = .ok (.iconst 0, 1) := by decide +kernel
theorem dX6_granary_14 : decode cX6_granary 14 = .ok (.iastore, 1) := by decide +kernel
theorem dX6_granary_15 : decode cX6_granary 15 = .ok (.aload_n 0, 1) := by decide +kernel
theorem dX6_granary_16 : decode cX6_granary 16 = .ok (.getfield 7, 3) := by decide +kernel
theorem dX6_granary_19 : decode cX6_granary 19 = .ok (.bipush 16, 2) := by decide +kernel
theorem dX6_granary_21 : decode cX6_granary 21 = .ok (.iaload, 1) := by decide +kernel
theorem dX6_granary_22 : decode cX6_granary 22 = .ok (.istore_n 1, 1) := by decide +kernel
theorem dX6_granary_23 : decode cX6_granary 23 = .ok (.iload_n 1, 1) := by decide +kernel
theorem dX6_granary_24 : decode cX6_granary 24 = .ok (.bipush 40, 2) := by decide +kernel
theorem dX6_granary_26 : decode cX6_granary 26 = .ok (.if_icmp .gt 29, 3) := by decide +kernel
theorem dX6_granary_29 : decode cX6_granary 29 = .ok (.aload_n 0, 1) := by decide +kernel
theorem dX6_granary_30 : decode cX6_granary 30 = .ok (.getfield 7, 3) := by decide +kernel
theorem dX6_granary_33 : decode cX6_granary 33 = .ok (.bipush 89, 2) := by decide +kernel
theorem dX6_granary_35 : decode cX6_granary 35 = .ok (.bipush 40, 2) := by decide +kernel
theorem dX6_granary_37 : decode cX6_granary 37 = .ok (.iload_n 1, 1) := by decide +kernel
theorem dX6_granary_38 : decode cX6_granary 38 = .ok (.isub, 1) := by decide +kernel
theorem dX6_granary_39 : decode cX6_granary 39 = .ok (.iastore, 1) := by decide +kernel
theorem dX6_granary_40 : decode cX6_granary 40 = .ok (.aload_n 0, 1) := by decide +kernel
theorem dX6_granary_41 : decode cX6_granary 41 = .ok (.invokevirtual 255, 3) := by decide +kernel
theorem dX6_granary_44 : decode cX6_granary 44 = .ok (.ifCond .eq 5, 3) := by decide +kernel
theorem dX6_granary_47 : decode cX6_granary 47 = .ok (.iload_n 1, 1) := by decide +kernel
theorem dX6_granary_48 : decode cX6_granary 48 = .ok (.ireturn, 1) := by decide +kernel
theorem dX6_granary_49 : decode cX6_granary 49 = .ok (.iinc 1 1, 3) := by decide +kernel
theorem dX6_granary_52 : decode cX6_granary 52 = .ok (.goto (-29), 3) := by decide +kernel
theorem dX6_granary_55 : decode cX6_granary 55 = .ok (.bipush (-4), 2) := by decide +kernel
theorem dX6_granary_57 : decode cX6_granary 57 = .ok (.ireturn, 1) := by decide +kernel
theorem dX6_least_0 : decode cX6_least 0 = .ok (.aload_n 0, 1) := by decide +kernel
theorem dX6_least_1 : decode cX6_least 1 = .ok (.iconst 0, 1) := by decide +kernel
theorem dX6_least_2 : decode cX6_least 2 = .ok (.bipush 75, 2) := by decide +kernel
theorem dX6_least_4 : decode cX6_least 4 = .ok (.invokevirtual 201, 3) := by decide +kernel
theorem dX6_least_7 : decode cX6_least 7 = .ok (.iconst 0, 1) := by decide +kernel
theorem dX6_least_8 : decode cX6_least 8 = .ok (.istore_n 1, 1) := by decide +kernel
theorem dX6_least_9 : decode cX6_least 9 = .ok (.iload_n 1, 1) := by decide +kernel
theorem dX6_least_10 : decode cX6_least 10 = .ok (.aload_n 0, 1) := by decide +kernel
theorem dX6_least_11 : decode cX6_least 11 = .ok (.iconst 0, 1) := by decide +kernel
theorem dX6_least_12 : decode cX6_least 12 = .ok (.invokevirtual 138, 3) := by decide +kernel
theorem dX6_least_15 : decode cX6_least 15 = .ok (.if_icmp .gt 26, 3) := by decide +kernel
theorem dX6_least_18 : decode cX6_least 18 = .ok (.aload_n 0, 1) := by decide +kernel
theorem dX6_least_19 : decode cX6_least 19 = .ok (.getfield 7, 3) := by decide +kernel
theorem dX6_least_22 : decode cX6_least 22 = .ok (.bipush 91, 2) := by decide +kernel
theorem dX6_least_24 : decode cX6_least 24 = .ok (.iload_n 1, 1) := by decide +kernel
theorem dX6_least_25 : decode cX6_least 25 = .ok (.iastore, 1) := by decide +kernel
theorem dX6_least_26 : decode cX6_least 26 = .ok (.aload_n 0, 1) := by decide +kernel
theorem dX6_least_27 : decode cX6_least 27 = .ok (.invokevirtual 255, 3) := by decide +kernel
theorem dX6_least_30 : decode cX6_least 30 = .ok (.ifCond .eq 5, 3) := by decide +kernel
theorem dX6_least_33 : decode cX6_least 33 = .ok (.iload_n 1, 1) := by decide +kernel
theorem dX6_least_34 : decode cX6_least 34 = .ok (.ireturn, 1) := by decide +kernel
theorem dX6_least_35 : decode cX6_least 35 = .ok (.iinc 1 1, 3) := by decide +kernel
theorem dX6_least_38 : decode cX6_least 38 = .ok (.goto (-29), 3) := by decide +kernel
theorem dX6_least_41 : decode cX6_least 41 = .ok (.bipush (-4), 2) := by decide +kernel
theorem dX6_least_43 : decode cX6_least 43 = .ok (.ireturn, 1) := by decide +kernel
theorem dX6_see_0 : decode cX6_see 0 = .ok (.iload_n 1, 1) := by decide +kernel
theorem dX6_see_1 : decode cX6_see 1 = .ok (.i2l, 1) := by decide +kernel
theorem dX6_see_2 : decode cX6_see 2 = .ok (.lconst 1, 1) := by decide +kernel
theorem dX6_see_3 : decode cX6_see 3 = .ok (.ldc2_w 197, 3) := by decide +kernel
theorem dX6_see_6 : decode cX6_see 6 = .ok (.invokestatic 53, 3) := by decide +kernel
theorem dX6_see_9 : decode cX6_see 9 = .ok (.ifCond .eq 15, 3) := by decide +kernel
theorem dX6_see_12 : decode cX6_see 12 = .ok (.iload_n 2, 1) := by decide +kernel
theorem dX6_see_13 : decode cX6_see 13 = .ok (.i2l, 1) := by decide +kernel
theorem dX6_see_14 : decode cX6_see 14 = .ok (.lconst 0, 1) := by decide +kernel
theorem dX6_see_15 : decode cX6_see 15 = .ok (.ldc2_w 173, 3) := by decide +kernel
theorem dX6_see_18 : decode cX6_see 18 = .ok (.invokestatic 53, 3) := by decide +kernel
theorem dX6_see_21 : decode cX6_see 21 = .ok (.ifCond .ne 5, 3) := by decide +kernel
theorem dX6_see_24 : decode cX6_see 24 = .ok (.iconst (-1), 1) := by decide +kernel
theorem dX6_see_25 : decode cX6_see 25 = .ok (.ireturn, 1) := by decide +kernel
theorem dX6_see_26 : decode cX6_see 26 = .ok (.aload_n 0, 1) := by decide +kernel
theorem dX6_see_27 : decode cX6_see 27 = .ok (.getfield 135, 3) := by decide +kernel
theorem dX6_see_30 : decode cX6_see 30 = .ok (.bipush 6, 2) := by decide +kernel
theorem dX6_see_32 : decode cX6_see 32 = .ok (.if_icmp .ne 6, 3) := by decide +kernel
theorem dX6_see_35 : decode cX6_see 35 = .ok (.bipush (-3), 2) := by decide +kernel
theorem dX6_see_37 : decode cX6_see 37 = .ok (.ireturn, 1) := by decide +kernel
theorem dX6_see_38 : decode cX6_see 38 = .ok (.aload_n 0, 1) := by decide +kernel
theorem dX6_see_39 : decode cX6_see 39 = .ok (.getfield 35, 3) := by decide +kernel
theorem dX6_see_42 : decode cX6_see 42 = .ok (.iconst 2, 1) := by decide +kernel
theorem dX6_see_43 : decode cX6_see 43 = .ok (.aload_n 0, 1) := by decide +kernel
theorem dX6_see_44 : decode cX6_see 44 = .ok (.getfield 135, 3) := by decide +kernel
theorem dX6_see_47 : decode cX6_see 47 = .ok (.imul, 1) := by decide +kernel
theorem dX6_see_48 : decode cX6_see 48 = .ok (.iload_n 1, 1) := by decide +kernel
theorem dX6_see_49 : decode cX6_see 49 = .ok (.iastore, 1) := by decide +kernel
theorem dX6_see_50 : decode cX6_see 50 = .ok (.aload_n 0, 1) := by decide +kernel
theorem dX6_see_51 : decode cX6_see 51 = .ok (.getfield 35, 3) := by decide +kernel
theorem dX6_see_54 : decode cX6_see 54 = .ok (.iconst 2, 1) := by decide +kernel
theorem dX6_see_55 : decode cX6_see 55 = .ok (.aload_n 0, 1) := by decide +kernel
theorem dX6_see_56 : decode cX6_see 56 = .ok (.getfield 135, 3) := by decide +kernel
theorem dX6_see_59 : decode cX6_see 59 = .ok (.imul, 1) := by decide +kernel
theorem dX6_see_60 : decode cX6_see 60 = .ok (.iconst 1, 1) := by decide +kernel
theorem dX6_see_61 : decode cX6_see 61 = .ok (.iadd, 1) := by decide +kernel
theorem dX6_see_62 : decode cX6_see 62 = .ok (.iload_n 2, 1) := by decide +kernel
theorem dX6_see_63 : decode cX6_see 63 = .ok (.iastore, 1) := by decide +kernel
theorem dX6_see_64 : decode cX6_see 64 = .ok (.aload_n 0, 1) := by decide +kernel
theorem dX6_see_65 : decode cX6_see 65 = .ok (.dup, 1) := by decide +kernel
theorem dX6_see_66 : decode cX6_see 66 = .ok (.getfield 135, 3) := by decide +kernel
theorem dX6_see_69 : decode cX6_see 69 = .ok (.iconst 1, 1) := by decide +kernel
theorem dX6_see_70 : decode cX6_see 70 = .ok (.iadd, 1) := by decide +kernel
theorem dX6_see_71 : decode cX6_see 71 = .ok (.putfield 135, 3) := by decide +kernel
theorem dX6_see_74 : decode cX6_see 74 = .ok (.aload_n 0, 1) := by decide +kernel
theorem dX6_see_75 : decode cX6_see 75 = .ok (.getfield 135, 3) := by decide +kernel
theorem dX6_see_78 : decode cX6_see 78 = .ok (.ireturn, 1) := by decide +kernel
theorem dX6_forget_0 : decode cX6_forget 0 = .ok (.iload_n 1, 1) := by decide +kernel
theorem dX6_forget_1 : decode cX6_forget 1 = .ok (.i2l, 1) := by decide +kernel
theorem dX6_forget_2 : decode cX6_forget 2 = .ok (.lconst 0, 1) := by decide +kernel
theorem dX6_forget_3 : decode cX6_forget 3 = .ok (.aload_n 0, 1) := by decide +kernel
theorem dX6_forget_4 : decode cX6_forget 4 = .ok (.getfield 135, 3) := by decide +kernel
theorem dX6_forget_7 : decode cX6_forget 7 = .ok (.i2l, 1) := by decide +kernel
theorem dX6_forget_8 : decode cX6_forget 8 = .ok (.invokestatic 53, 3) := by decide +kernel
theorem dX6_forget_11 : decode cX6_forget 11 = .ok (.ifCond .ne 5, 3) := by decide +kernel
theorem dX6_forget_14 : decode cX6_forget 14 = .ok (.iconst (-1), 1) := by decide +kernel
theorem dX6_forget_15 : decode cX6_forget 15 = .ok (.ireturn, 1) := by decide +kernel
theorem dX6_forget_16 : decode cX6_forget 16 = .ok (.aload_n 0, 1) := by decide +kernel
theorem dX6_forget_17 : decode cX6_forget 17 = .ok (.getfield 135, 3) := by decide +kernel
theorem dX6_forget_20 : decode cX6_forget 20 = .ok (.istore_n 2, 1) := by decide +kernel
theorem dX6_forget_21 : decode cX6_forget 21 = .ok (.aload_n 0, 1) := by decide +kernel
theorem dX6_forget_22 : decode cX6_forget 22 = .ok (.iload_n 1, 1) := by decide +kernel
theorem dX6_forget_23 : decode cX6_forget 23 = .ok (.putfield 135, 3) := by decide +kernel
theorem dX6_forget_26 : decode cX6_forget 26 = .ok (.iload_n 2, 1) := by decide +kernel
theorem dX6_forget_27 : decode cX6_forget 27 = .ok (.ireturn, 1) := by decide +kernel
theorem dX6_isAsSeen_0 : decode cX6_isAsSeen 0 = .ok (.iconst 1, 1) := by decide +kernel
theorem dX6_isAsSeen_1 : decode cX6_isAsSeen 1 = .ok (.istore 5, 2) := by decide +kernel
theorem dX6_isAsSeen_3 : decode cX6_isAsSeen 3 = .ok (.aload_n 0, 1) := by decide +kernel
theorem dX6_isAsSeen_4 : decode cX6_isAsSeen 4 = .ok (.iconst 0, 1) := by decide +kernel
theorem dX6_isAsSeen_5 : decode cX6_isAsSeen 5 = .ok (.bipush 100, 2) := by decide +kernel
theorem dX6_isAsSeen_7 : decode cX6_isAsSeen 7 = .ok (.invokevirtual 201, 3) := by decide +kernel
theorem dX6_isAsSeen_10 : decode cX6_isAsSeen 10 = .ok (.aload_n 0, 1) := by decide +kernel
theorem dX6_isAsSeen_11 : decode cX6_isAsSeen 11 = .ok (.getfield 7, 3) := by decide +kernel
theorem dX6_isAsSeen_14 : decode cX6_isAsSeen 14 = .ok (.bipush 119, 2) := by decide +kernel
theorem dX6_isAsSeen_16 : decode cX6_isAsSeen 16 = .ok (.iload_n 2, 1) := by decide +kernel
theorem dX6_isAsSeen_17 : decode cX6_isAsSeen 17 = .ok (.iastore, 1) := by decide +kernel
theorem dX6_isAsSeen_18 : decode cX6_isAsSeen 18 = .ok (.aload_n 0, 1) := by decide +kernel
theorem dX6_isAsSeen_19 : decode cX6_isAsSeen 19 = .ok (.getfield 7, 3) := by decide +kernel
theorem dX6_isAsSeen_22 : decode cX6_isAsSeen 22 = .ok (.bipush 120, 2) := by decide +kernel
theorem dX6_isAsSeen_24 : decode cX6_isAsSeen 24 = .ok (.iload_n 3, 1) := by decide +kernel
theorem dX6_isAsSeen_25 : decode cX6_isAsSeen 25 = .ok (.iastore, 1) := by decide +kernel
theorem dX6_isAsSeen_26 : decode cX6_isAsSeen 26 = .ok (.iconst 1, 1) := by decide +kernel
theorem dX6_isAsSeen_27 : decode cX6_isAsSeen 27 = .ok (.istore 6, 2) := by decide +kernel
theorem dX6_isAsSeen_29 : decode cX6_isAsSeen 29 = .ok (.iload 6, 2) := by decide +kernel
theorem dX6_isAsSeen_31 : decode cX6_isAsSeen 31 = .ok (.bipush 8, 2) := by decide +kernel
theorem dX6_isAsSeen_33 : decode cX6_isAsSeen 33 = .ok (.if_icmp .gt 141, 3) := by decide +kernel
theorem dX6_isAsSeen_36 : decode cX6_isAsSeen 36 = .ok (.aload_n 0, 1) := by decide +kernel
theorem dX6_isAsSeen_37 : decode cX6_isAsSeen 37 = .ok (.getfield 7, 3) := by decide +kernel
theorem dX6_isAsSeen_40 : decode cX6_isAsSeen 40 = .ok (.bipush 121, 2) := by decide +kernel
theorem dX6_isAsSeen_42 : decode cX6_isAsSeen 42 = .ok (.iaload, 1) := by decide +kernel
theorem dX6_isAsSeen_43 : decode cX6_isAsSeen 43 = .ok (.bipush 8, 2) := by decide +kernel
theorem dX6_isAsSeen_45 : decode cX6_isAsSeen 45 = .ok (.if_icmp .ge 7, 3) := by decide +kernel
theorem dX6_isAsSeen_48 : decode cX6_isAsSeen 48 = .ok (.iconst 1, 1) := by decide +kernel
theorem dX6_isAsSeen_49 : decode cX6_isAsSeen 49 = .ok (.goto 4, 3) := by decide +kernel
theorem dX6_isAsSeen_52 : decode cX6_isAsSeen 52 = .ok (.iconst 0, 1) := by decide +kernel
theorem dX6_isAsSeen_53 : decode cX6_isAsSeen 53 = .ok (.istore 7, 2) := by decide +kernel
theorem dX6_isAsSeen_55 : decode cX6_isAsSeen 55 = .ok (.aload_n 0, 1) := by decide +kernel
theorem dX6_isAsSeen_56 : decode cX6_isAsSeen 56 = .ok (.iload_n 1, 1) := by decide +kernel
theorem dX6_isAsSeen_57 : decode cX6_isAsSeen 57 = .ok (.invokevirtual 205, 3) := by decide +kernel
theorem dX6_isAsSeen_60 : decode cX6_isAsSeen 60 = .ok (.pop, 1) := by decide +kernel
theorem dX6_isAsSeen_61 : decode cX6_isAsSeen 61 = .ok (.aload_n 0, 1) := by decide +kernel
theorem dX6_isAsSeen_62 : decode cX6_isAsSeen 62 = .ok (.getfield 7, 3) := by decide +kernel
theorem dX6_isAsSeen_65 : decode cX6_isAsSeen 65 = .ok (.bipush 116, 2) := by decide +kernel
theorem dX6_isAsSeen_67 : decode cX6_isAsSeen 67 = .ok (.iaload, 1) := by decide +kernel
theorem dX6_isAsSeen_68 : decode cX6_isAsSeen 68 = .ok (.istore 8, 2) := by decide +kernel
theorem dX6_isAsSeen_70 : decode cX6_isAsSeen 70 = .ok (.aload_n 0, 1) := by decide +kernel
theorem dX6_isAsSeen_71 : decode cX6_isAsSeen 71 = .ok (.getfield 7, 3) := by decide +kernel
theorem dX6_isAsSeen_74 : decode cX6_isAsSeen 74 = .ok (.bipush 116, 2) := by decide +kernel
theorem dX6_isAsSeen_76 : decode cX6_isAsSeen 76 = .ok (.iload 7, 2) := by decide +kernel
theorem dX6_isAsSeen_78 : decode cX6_isAsSeen 78 = .ok (.ifCond .ne 8, 3) := by decide +kernel
theorem dX6_isAsSeen_81 : decode cX6_isAsSeen 81 = .ok (.iload 8, 2) := by decide +kernel
theorem dX6_isAsSeen_83 : decode cX6_isAsSeen 83 = .ok (.goto 19, 3) := by decide +kernel
theorem dX6_isAsSeen_86 : decode cX6_isAsSeen 86 = .ok (.iload 8, 2) := by decide +kernel
theorem dX6_isAsSeen_88 : decode cX6_isAsSeen 88 = .ok (.iload 4, 2) := by decide +kernel
theorem dX6_isAsSeen_90 : decode cX6_isAsSeen 90 = .ok (.if_icmp .le 11, 3) := by decide +kernel
theorem dX6_isAsSeen_93 : decode cX6_isAsSeen 93 = .ok (.iload 8, 2) := by decide +kernel
theorem dX6_isAsSeen_95 : decode cX6_isAsSeen 95 = .ok (.iload 4, 2) := by decide +kernel
theorem dX6_isAsSeen_97 : decode cX6_isAsSeen 97 = .ok (.isub, 1) := by decide +kernel
theorem dX6_isAsSeen_98 : decode cX6_isAsSeen 98 = .ok (.goto 4, 3) := by decide +kernel
theorem dX6_isAsSeen_101 : decode cX6_isAsSeen 101 = .ok (.iconst 0, 1) := by decide +kernel
theorem dX6_isAsSeen_102 : decode cX6_isAsSeen 102 = .ok (.iastore, 1) := by decide +kernel
theorem dX6_isAsSeen_103 : decode cX6_isAsSeen 103 = .ok (.iconst 0, 1) := by decide +kernel
theorem dX6_isAsSeen_104 : decode cX6_isAsSeen 104 = .ok (.istore 9, 2) := by decide +kernel
theorem dX6_isAsSeen_106 : decode cX6_isAsSeen 106 = .ok (.iload 9, 2) := by decide +kernel
theorem dX6_isAsSeen_108 : decode cX6_isAsSeen 108 = .ok (.aload_n 0, 1) := by decide +kernel
theorem dX6_isAsSeen_109 : decode cX6_isAsSeen 109 = .ok (.getfield 135, 3) := by decide +kernel
theorem dX6_isAsSeen_112 : decode cX6_isAsSeen 112 = .ok (.if_icmp .ge 56, 3) := by decide +kernel
theorem dX6_isAsSeen_115 : decode cX6_isAsSeen 115 = .ok (.iload 5, 2) := by decide +kernel
theorem dX6_isAsSeen_117 : decode cX6_isAsSeen 117 = .ok (.ifCond .eq 42, 3) := by decide +kernel
theorem dX6_isAsSeen_120 : decode cX6_isAsSeen 120 = .ok (.aload_n 0, 1) := by decide +kernel
theorem dX6_isAsSeen_121 : decode cX6_isAsSeen 121 = .ok (.getfield 35, 3) := by decide +kernel
theorem dX6_isAsSeen_124 : decode cX6_isAsSeen 124 = .ok (.iconst 2, 1) := by decide +kernel
theorem dX6_isAsSeen_125 : decode cX6_isAsSeen 125 = .ok (.iload 9, 2) := by decide +kernel
theorem dX6_isAsSeen_127 : decode cX6_isAsSeen 127 = .ok (.imul, 1) := by decide +kernel
theorem dX6_isAsSeen_128 : decode cX6_isAsSeen 128 = .ok (.iaload, 1) := by decide +kernel
theorem dX6_isAsSeen_129 : decode cX6_isAsSeen 129 = .ok (.iload 6, 2) := by decide +kernel
theorem dX6_isAsSeen_131 : decode cX6_isAsSeen 131 = .ok (.if_icmp .ne 24, 3) := by decide +kernel
theorem dX6_isAsSeen_134 : decode cX6_isAsSeen 134 = .ok (.aload_n 0, 1) := by decide +kernel
theorem dX6_isAsSeen_135 : decode cX6_isAsSeen 135 = .ok (.getfield 35, 3) := by decide +kernel
theorem dX6_isAsSeen_138 : decode cX6_isAsSeen 138 = .ok (.iconst 2, 1) := by decide +kernel
theorem dX6_isAsSeen_139 : decode cX6_isAsSeen 139 = .ok (.iload 9, 2) := by decide +kernel
theorem dX6_isAsSeen_141 : decode cX6_isAsSeen 141 = .ok (.imul, 1) := by decide +kernel
theorem dX6_isAsSeen_142 : decode cX6_isAsSeen 142 = .ok (.iconst 1, 1) := by decide +kernel
theorem dX6_isAsSeen_143 : decode cX6_isAsSeen 143 = .ok (.iadd, 1) := by decide +kernel
theorem dX6_isAsSeen_144 : decode cX6_isAsSeen 144 = .ok (.iaload, 1) := by decide +kernel
theorem dX6_isAsSeen_145 : decode cX6_isAsSeen 145 = .ok (.aload_n 0, 1) := by decide +kernel
theorem dX6_isAsSeen_146 : decode cX6_isAsSeen 146 = .ok (.getfield 7, 3) := by decide +kernel
theorem dX6_isAsSeen_149 : decode cX6_isAsSeen 149 = .ok (.bipush 116, 2) := by decide +kernel
theorem dX6_isAsSeen_151 : decode cX6_isAsSeen 151 = .ok (.iaload, 1) := by decide +kernel
theorem dX6_isAsSeen_152 : decode cX6_isAsSeen 152 = .ok (.if_icmp .ne 7, 3) := by decide +kernel
theorem dX6_isAsSeen_155 : decode cX6_isAsSeen 155 = .ok (.iconst 1, 1) := by decide +kernel
theorem dX6_isAsSeen_156 : decode cX6_isAsSeen 156 = .ok (.goto 4, 3) := by decide +kernel
theorem dX6_isAsSeen_159 : decode cX6_isAsSeen 159 = .ok (.iconst 0, 1) := by decide +kernel
theorem dX6_isAsSeen_160 : decode cX6_isAsSeen 160 = .ok (.istore 5, 2) := by decide +kernel
theorem dX6_isAsSeen_162 : decode cX6_isAsSeen 162 = .ok (.iinc 9 1, 3) := by decide +kernel
theorem dX6_isAsSeen_165 : decode cX6_isAsSeen 165 = .ok (.goto (-59), 3) := by decide +kernel
theorem dX6_isAsSeen_168 : decode cX6_isAsSeen 168 = .ok (.iinc 6 1, 3) := by decide +kernel
theorem dX6_isAsSeen_171 : decode cX6_isAsSeen 171 = .ok (.goto (-142), 3) := by decide +kernel
theorem dX6_isAsSeen_174 : decode cX6_isAsSeen 174 = .ok (.iload 5, 2) := by decide +kernel
theorem dX6_isAsSeen_176 : decode cX6_isAsSeen 176 = .ok (.ireturn, 1) := by decide +kernel
theorem dX6_stewards_0 : decode cX6_stewards 0 = .ok (.aload_n 0, 1) := by decide +kernel
theorem dX6_stewards_1 : decode cX6_stewards 1 = .ok (.iload_n 1, 1) := by decide +kernel
theorem dX6_stewards_2 : decode cX6_stewards 2 = .ok (.invokevirtual 153, 3) := by decide +kernel
theorem dX6_stewards_5 : decode cX6_stewards 5 = .ok (.ifCond .eq 13, 3) := by decide +kernel
theorem dX6_stewards_8 : decode cX6_stewards 8 = .ok (.iload_n 2, 1) := by decide +kernel
theorem dX6_stewards_9 : decode cX6_stewards 9 = .ok (.i2l, 1) := by decide +kernel
theorem dX6_stewards_10 : decode cX6_stewards 10 = .ok (.lconst 0, 1) := by decide +kernel
theorem dX6_stewards_11 : decode cX6_stewards 11 = .ok (.lconst 1, 1) := by decide +kernel
theorem dX6_stewards_12 : decode cX6_stewards 12 = .ok (.invokestatic 53, 3) := by decide +kernel
theorem dX6_stewards_15 : decode cX6_stewards 15 = .ok (.ifCond .ne 5, 3) := by decide +kernel
theorem dX6_stewards_18 : decode cX6_stewards 18 = .ok (.iconst (-1), 1) := by decide +kernel
theorem dX6_stewards_19 : decode cX6_stewards 19 = .ok (.ireturn, 1) := by decide +kernel
theorem dX6_stewards_20 : decode cX6_stewards 20 = .ok (.iconst 0, 1) := by decide +kernel
theorem dX6_stewards_21 : decode cX6_stewards 21 = .ok (.istore_n 3, 1) := by decide +kernel
theorem dX6_stewards_22 : decode cX6_stewards 22 = .ok (.bipush (-4), 2) := by decide +kernel
theorem dX6_stewards_24 : decode cX6_stewards 24 = .ok (.istore 4, 2) := by decide +kernel
theorem dX6_stewards_26 : decode cX6_stewards 26 = .ok (.iconst 0, 1) := by decide +kernel
theorem dX6_stewards_27 : decode cX6_stewards 27 = .ok (.istore 5, 2) := by decide +kernel
theorem dX6_stewards_29 : decode cX6_stewards 29 = .ok (.iload 5, 2) := by decide +kernel
theorem dX6_stewards_31 : decode cX6_stewards 31 = .ok (.bipush 50, 2) := by decide +kernel
theorem dX6_stewards_33 : decode cX6_stewards 33 = .ok (.if_icmp .ge 44, 3) := by decide +kernel
theorem dX6_stewards_36 : decode cX6_stewards 36 = .ok (.aload_n 0, 1) := by decide +kernel
theorem dX6_stewards_37 : decode cX6_stewards 37 = .ok (.iload_n 1, 1) := by decide +kernel
theorem dX6_stewards_38 : decode cX6_stewards 38 = .ok (.iload 5, 2) := by decide +kernel
theorem dX6_stewards_40 : decode cX6_stewards 40 = .ok (.bipush 10, 2) := by decide +kernel
theorem dX6_stewards_42 : decode cX6_stewards 42 = .ok (.idiv, 1) := by decide +kernel
theorem dX6_stewards_43 : decode cX6_stewards 43 = .ok (.iload 5, 2) := by decide +kernel
theorem dX6_stewards_45 : decode cX6_stewards 45 = .ok (.bipush 10, 2) := by decide +kernel
theorem dX6_stewards_47 : decode cX6_stewards 47 = .ok (.irem, 1) := by decide +kernel
theorem dX6_stewards_48 : decode cX6_stewards 48 = .ok (.iconst 0, 1) := by decide +kernel
theorem dX6_stewards_49 : decode cX6_stewards 49 = .ok (.invokevirtual 259, 3) := by decide +kernel
theorem dX6_stewards_52 : decode cX6_stewards 52 = .ok (.ifCond .eq 19, 3) := by decide +kernel
theorem dX6_stewards_55 : decode cX6_stewards 55 = .ok (.iload_n 3, 1) := by decide +kernel
theorem dX6_stewards_56 : decode cX6_stewards 56 = .ok (.ifCond .ne 8, 3) := by decide +kernel
theorem dX6_stewards_59 : decode cX6_stewards 59 = .ok (.iload 5, 2) := by decide +kernel
theorem dX6_stewards_61 : decode cX6_stewards 61 = .ok (.goto 5, 3) := by decide +kernel
theorem dX6_stewards_64 : decode cX6_stewards 64 = .ok (.iload 4, 2) := by decide +kernel
theorem dX6_stewards_66 : decode cX6_stewards 66 = .ok (.istore 4, 2) := by decide +kernel
theorem dX6_stewards_68 : decode cX6_stewards 68 = .ok (.iinc 3 1, 3) := by decide +kernel
theorem dX6_stewards_71 : decode cX6_stewards 71 = .ok (.iinc 5 1, 3) := by decide +kernel
theorem dX6_stewards_74 : decode cX6_stewards 74 = .ok (.goto (-45), 3) := by decide +kernel
theorem dX6_stewards_77 : decode cX6_stewards 77 = .ok (.iload_n 2, 1) := by decide +kernel
theorem dX6_stewards_78 : decode cX6_stewards 78 = .ok (.ifCond .ne 7, 3) := by decide +kernel
theorem dX6_stewards_81 : decode cX6_stewards 81 = .ok (.iload_n 3, 1) := by decide +kernel
theorem dX6_stewards_82 : decode cX6_stewards 82 = .ok (.goto 5, 3) := by decide +kernel
theorem dX6_stewards_85 : decode cX6_stewards 85 = .ok (.iload 4, 2) := by decide +kernel
theorem dX6_stewards_87 : decode cX6_stewards 87 = .ok (.ireturn, 1) := by decide +kernel
theorem dX6_hoards_0 : decode cX6_hoards 0 = .ok (.aload_n 0, 1) := by decide +kernel
theorem dX6_hoards_1 : decode cX6_hoards 1 = .ok (.iload_n 1, 1) := by decide +kernel
theorem dX6_hoards_2 : decode cX6_hoards 2 = .ok (.invokevirtual 153, 3) := by decide +kernel
theorem dX6_hoards_5 : decode cX6_hoards 5 = .ok (.ifCond .ne 5, 3) := by decide +kernel
theorem dX6_hoards_8 : decode cX6_hoards 8 = .ok (.iconst (-1), 1) := by decide +kernel
theorem dX6_hoards_9 : decode cX6_hoards 9 = .ok (.ireturn, 1) := by decide +kernel
theorem dX6_hoards_10 : decode cX6_hoards 10 = .ok (.iconst 0, 1) := by decide +kernel
theorem dX6_hoards_11 : decode cX6_hoards 11 = .ok (.istore_n 2, 1) := by decide +kernel
theorem dX6_hoards_12 : decode cX6_hoards 12 = .ok (.iconst 0, 1) := by decide +kernel
theorem dX6_hoards_13 : decode cX6_hoards 13 = .ok (.istore_n 3, 1) := by decide +kernel
theorem dX6_hoards_14 : decode cX6_hoards 14 = .ok (.iload_n 3, 1) := by decide +kernel
theorem dX6_hoards_15 : decode cX6_hoards 15 = .ok (.bipush 10, 2) := by decide +kernel
theorem dX6_hoards_17 : decode cX6_hoards 17 = .ok (.if_icmp .ge 42, 3) := by decide +kernel
theorem dX6_hoards_20 : decode cX6_hoards 20 = .ok (.iload_n 2, 1) := by decide +kernel
theorem dX6_hoards_21 : decode cX6_hoards 21 = .ok (.aload_n 0, 1) := by decide +kernel
theorem dX6_hoards_22 : decode cX6_hoards 22 = .ok (.iload_n 1, 1) := by decide +kernel
theorem dX6_hoards_23 : decode cX6_hoards 23 = .ok (.aload_n 0, 1) := by decide +kernel
theorem dX6_hoards_24 : decode cX6_hoards 24 = .ok (.getfield 7, 3) := by decide +kernel
theorem dX6_hoards_27 : decode cX6_hoards 27 = .ok (.bipush 19, 2) := by decide +kernel
theorem dX6_hoards_29 : decode cX6_hoards 29 = .ok (.iaload, 1) := by decide +kernel
theorem dX6_hoards_30 : decode cX6_hoards 30 = .ok (.aload_n 0, 1) := by decide +kernel
theorem dX6_hoards_31 : decode cX6_hoards 31 = .ok (.getfield 7, 3) := by decide +kernel
theorem dX6_hoards_34 : decode cX6_hoards 34 = .ok (.bipush 20, 2) := by decide +kernel
theorem dX6_hoards_36 : decode cX6_hoards 36 = .ok (.iaload, 1) := by decide +kernel
theorem dX6_hoards_37 : decode cX6_hoards 37 = .ok (.iload_n 3, 1) := by decide +kernel
theorem dX6_hoards_38 : decode cX6_hoards 38 = .ok (.invokevirtual 259, 3) := by decide +kernel
theorem dX6_hoards_41 : decode cX6_hoards 41 = .ok (.ifCond .eq 9, 3) := by decide +kernel
theorem dX6_hoards_44 : decode cX6_hoards 44 = .ok (.iconst 1, 1) := by decide +kernel
theorem dX6_hoards_45 : decode cX6_hoards 45 = .ok (.iload_n 3, 1) := by decide +kernel
theorem dX6_hoards_46 : decode cX6_hoards 46 = .ok (.ishl, 1) := by decide +kernel
theorem dX6_hoards_47 : decode cX6_hoards 47 = .ok (.goto 4, 3) := by decide +kernel
theorem dX6_hoards_50 : decode cX6_hoards 50 = .ok (.iconst 0, 1) := by decide +kernel
theorem dX6_hoards_51 : decode cX6_hoards 51 = .ok (.ior, 1) := by decide +kernel
theorem dX6_hoards_52 : decode cX6_hoards 52 = .ok (.istore_n 2, 1) := by decide +kernel
theorem dX6_hoards_53 : decode cX6_hoards 53 = .ok (.iinc 3 1, 3) := by decide +kernel
theorem dX6_hoards_56 : decode cX6_hoards 56 = .ok (.goto (-42), 3) := by decide +kernel
theorem dX6_hoards_59 : decode cX6_hoards 59 = .ok (.iload_n 2, 1) := by decide +kernel
theorem dX6_hoards_60 : decode cX6_hoards 60 = .ok (.ireturn, 1) := by decide +kernel
theorem dX6_fits_0 : decode cX6_fits 0 = .ok (.iconst 0, 1) := by decide +kernel
theorem dX6_fits_1 : decode cX6_fits 1 = .ok (.istore_n 1, 1) := by decide +kernel
theorem dX6_fits_2 : decode cX6_fits 2 = .ok (.iconst 0, 1) := by decide +kernel
theorem dX6_fits_3 : decode cX6_fits 3 = .ok (.istore_n 2, 1) := by decide +kernel
theorem dX6_fits_4 : decode cX6_fits 4 = .ok (.iload_n 2, 1) := by decide +kernel
theorem dX6_fits_5 : decode cX6_fits 5 = .ok (.aload_n 0, 1) := by decide +kernel
theorem dX6_fits_6 : decode cX6_fits 6 = .ok (.getfield 132, 3) := by decide +kernel
theorem dX6_fits_9 : decode cX6_fits 9 = .ok (.if_icmp .ge 42, 3) := by decide +kernel
theorem dX6_fits_12 : decode cX6_fits 12 = .ok (.iload_n 1, 1) := by decide +kernel
theorem dX6_fits_13 : decode cX6_fits 13 = .ok (.aload_n 0, 1) := by decide +kernel
theorem dX6_fits_14 : decode cX6_fits 14 = .ok (.iload_n 2, 1) := by decide +kernel
theorem dX6_fits_15 : decode cX6_fits 15 = .ok (.aload_n 0, 1) := by decide +kernel
theorem dX6_fits_16 : decode cX6_fits 16 = .ok (.getfield 7, 3) := by decide +kernel
theorem dX6_fits_19 : decode cX6_fits 19 = .ok (.bipush 19, 2) := by decide +kernel
theorem dX6_fits_21 : decode cX6_fits 21 = .ok (.iaload, 1) := by decide +kernel
theorem dX6_fits_22 : decode cX6_fits 22 = .ok (.aload_n 0, 1) := by decide +kernel
theorem dX6_fits_23 : decode cX6_fits 23 = .ok (.getfield 7, 3) := by decide +kernel
theorem dX6_fits_26 : decode cX6_fits 26 = .ok (.bipush 20, 2) := by decide +kernel
theorem dX6_fits_28 : decode cX6_fits 28 = .ok (.iaload, 1) := by decide +kernel
theorem dX6_fits_29 : decode cX6_fits 29 = .ok (.iconst 0, 1) := by decide +kernel
theorem dX6_fits_30 : decode cX6_fits 30 = .ok (.invokevirtual 259, 3) := by decide +kernel
theorem dX6_fits_33 : decode cX6_fits 33 = .ok (.ifCond .eq 9, 3) := by decide +kernel
theorem dX6_fits_36 : decode cX6_fits 36 = .ok (.iconst 1, 1) := by decide +kernel
theorem dX6_fits_37 : decode cX6_fits 37 = .ok (.iload_n 2, 1) := by decide +kernel
theorem dX6_fits_38 : decode cX6_fits 38 = .ok (.ishl, 1) := by decide +kernel
theorem dX6_fits_39 : decode cX6_fits 39 = .ok (.goto 4, 3) := by decide +kernel
theorem dX6_fits_42 : decode cX6_fits 42 = .ok (.iconst 0, 1) := by decide +kernel
theorem dX6_fits_43 : decode cX6_fits 43 = .ok (.ior, 1) := by decide +kernel
theorem dX6_fits_44 : decode cX6_fits 44 = .ok (.istore_n 1, 1) := by decide +kernel
theorem dX6_fits_45 : decode cX6_fits 45 = .ok (.iinc 2 1, 3) := by decide +kernel
theorem dX6_fits_48 : decode cX6_fits 48 = .ok (.goto (-44), 3) := by decide +kernel
theorem dX6_fits_51 : decode cX6_fits 51 = .ok (.iload_n 1, 1) := by decide +kernel
theorem dX6_fits_52 : decode cX6_fits 52 = .ok (.ireturn, 1) := by decide +kernel
theorem dX6_drift_0 : decode cX6_drift 0 = .ok (.iload_n 2, 1) := by decide +kernel
theorem dX6_drift_1 : decode cX6_drift 1 = .ok (.i2l, 1) := by decide +kernel
theorem dX6_drift_2 : decode cX6_drift 2 = .ok (.lconst 0, 1) := by decide +kernel
theorem dX6_drift_3 : decode cX6_drift 3 = .ok (.ldc2_w 156, 3) := by decide +kernel
theorem dX6_drift_6 : decode cX6_drift 6 = .ok (.invokestatic 53, 3) := by decide +kernel
theorem dX6_drift_9 : decode cX6_drift 9 = .ok (.ifCond .eq 15, 3) := by decide +kernel
theorem dX6_drift_12 : decode cX6_drift 12 = .ok (.iload_n 3, 1) := by decide +kernel
theorem dX6_drift_13 : decode cX6_drift 13 = .ok (.i2l, 1) := by decide +kernel
theorem dX6_drift_14 : decode cX6_drift 14 = .ok (.lconst 0, 1) := by decide +kernel
theorem dX6_drift_15 : decode cX6_drift 15 = .ok (.ldc2_w 199, 3) := by decide +kernel
theorem dX6_drift_18 : decode cX6_drift 18 = .ok (.invokestatic 53, 3) := by decide +kernel
theorem dX6_drift_21 : decode cX6_drift 21 = .ok (.ifCond .ne 5, 3) := by decide +kernel
theorem dX6_drift_24 : decode cX6_drift 24 = .ok (.iconst (-1), 1) := by decide +kernel
theorem dX6_drift_25 : decode cX6_drift 25 = .ok (.ireturn, 1) := by decide +kernel
theorem dX6_drift_26 : decode cX6_drift 26 = .ok (.aload_n 0, 1) := by decide +kernel
theorem dX6_drift_27 : decode cX6_drift 27 = .ok (.iconst 0, 1) := by decide +kernel
theorem dX6_drift_28 : decode cX6_drift 28 = .ok (.bipush 100, 2) := by decide +kernel
theorem dX6_drift_30 : decode cX6_drift 30 = .ok (.invokevirtual 201, 3) := by decide +kernel
theorem dX6_drift_33 : decode cX6_drift 33 = .ok (.iload_n 1, 1) := by decide +kernel
theorem dX6_drift_34 : decode cX6_drift 34 = .ok (.istore 4, 2) := by decide +kernel
theorem dX6_drift_36 : decode cX6_drift 36 = .ok (.aload_n 0, 1) := by decide +kernel
theorem dX6_drift_37 : decode cX6_drift 37 = .ok (.getfield 7, 3) := by decide +kernel
theorem dX6_drift_40 : decode cX6_drift 40 = .ok (.bipush 121, 2) := by decide +kernel
theorem dX6_drift_42 : decode cX6_drift 42 = .ok (.iaload, 1) := by decide +kernel
theorem dX6_drift_43 : decode cX6_drift 43 = .ok (.bipush 8, 2) := by decide +kernel
theorem dX6_drift_45 : decode cX6_drift 45 = .ok (.if_icmp .ge 64, 3) := by decide +kernel
theorem dX6_drift_48 : decode cX6_drift 48 = .ok (.iload 4, 2) := by decide +kernel
theorem dX6_drift_50 : decode cX6_drift 50 = .ok (.ldc_w 263, 3) := by decide +kernel
theorem dX6_drift_53 : decode cX6_drift 53 = .ok (.imul, 1) := by decide +kernel
theorem dX6_drift_54 : decode cX6_drift 54 = .ok (.sipush 12345, 3) := by decide +kernel
theorem dX6_drift_57 : decode cX6_drift 57 = .ok (.iadd, 1) := by decide +kernel
theorem dX6_drift_58 : decode cX6_drift 58 = .ok (.istore 4, 2) := by decide +kernel
theorem dX6_drift_60 : decode cX6_drift 60 = .ok (.iload 4, 2) := by decide +kernel
theorem dX6_drift_62 : decode cX6_drift 62 = .ok (.bipush 16, 2) := by decide +kernel
theorem dX6_drift_64 : decode cX6_drift 64 = .ok (.ishr, 1) := by decide +kernel
theorem dX6_drift_65 : decode cX6_drift 65 = .ok (.sipush 32767, 3) := by decide +kernel
theorem dX6_drift_68 : decode cX6_drift 68 = .ok (.iand, 1) := by decide +kernel
theorem dX6_drift_69 : decode cX6_drift 69 = .ok (.bipush 10, 2) := by decide +kernel
theorem dX6_drift_71 : decode cX6_drift 71 = .ok (.irem, 1) := by decide +kernel
theorem dX6_drift_72 : decode cX6_drift 72 = .ok (.iload_n 2, 1) := by decide +kernel
theorem dX6_drift_73 : decode cX6_drift 73 = .ok (.if_icmp .ge 7, 3) := by decide +kernel
theorem dX6_drift_76 : decode cX6_drift 76 = .ok (.iconst 1, 1) := by decide +kernel
theorem dX6_drift_77 : decode cX6_drift 77 = .ok (.goto 4, 3) := by decide +kernel
theorem dX6_drift_80 : decode cX6_drift 80 = .ok (.iconst 0, 1) := by decide +kernel
theorem dX6_drift_81 : decode cX6_drift 81 = .ok (.istore 5, 2) := by decide +kernel
theorem dX6_drift_83 : decode cX6_drift 83 = .ok (.aload_n 0, 1) := by decide +kernel
theorem dX6_drift_84 : decode cX6_drift 84 = .ok (.bipush 100, 2) := by decide +kernel
theorem dX6_drift_86 : decode cX6_drift 86 = .ok (.iload 5, 2) := by decide +kernel
theorem dX6_drift_88 : decode cX6_drift 88 = .ok (.aload_n 0, 1) := by decide +kernel
theorem dX6_drift_89 : decode cX6_drift 89 = .ok (.bipush 100, 2) := by decide +kernel
theorem dX6_drift_91 : decode cX6_drift 91 = .ok (.aload_n 0, 1) := by decide +kernel
theorem dX6_drift_92 : decode cX6_drift 92 = .ok (.bipush 100, 2) := by decide +kernel
theorem dX6_drift_94 : decode cX6_drift 94 = .ok (.iload 5, 2) := by decide +kernel
theorem dX6_drift_96 : decode cX6_drift 96 = .ok (.invokevirtual 179, 3) := by decide +kernel
theorem dX6_drift_99 : decode cX6_drift 99 = .ok (.invokevirtual 192, 3) := by decide +kernel
theorem dX6_drift_102 : decode cX6_drift 102 = .ok (.invokevirtual 185, 3) := by decide +kernel
theorem dX6_drift_105 : decode cX6_drift 105 = .ok (.pop, 1) := by decide +kernel
theorem dX6_drift_106 : decode cX6_drift 106 = .ok (.goto (-70), 3) := by decide +kernel
theorem dX6_drift_109 : decode cX6_drift 109 = .ok (.iload_n 3, 1) := by decide +kernel
theorem dX6_drift_110 : decode cX6_drift 110 = .ok (.ifCond .ne 21, 3) := by decide +kernel
theorem dX6_drift_113 : decode cX6_drift 113 = .ok (.aload_n 0, 1) := by decide +kernel
theorem dX6_drift_114 : decode cX6_drift 114 = .ok (.getfield 7, 3) := by decide +kernel
theorem dX6_drift_117 : decode cX6_drift 117 = .ok (.bipush 124, 2) := by decide +kernel
theorem dX6_drift_119 : decode cX6_drift 119 = .ok (.iaload, 1) := by decide +kernel
theorem dX6_drift_120 : decode cX6_drift 120 = .ok (.aload_n 0, 1) := by decide +kernel
theorem dX6_drift_121 : decode cX6_drift 121 = .ok (.getfield 7, 3) := by decide +kernel
theorem dX6_drift_124 : decode cX6_drift 124 = .ok (.bipush 24, 2) := by decide +kernel
theorem dX6_drift_126 : decode cX6_drift 126 = .ok (.iaload, 1) := by decide +kernel
theorem dX6_drift_127 : decode cX6_drift 127 = .ok (.isub, 1) := by decide +kernel
theorem dX6_drift_128 : decode cX6_drift 128 = .ok (.goto 33, 3) := by decide +kernel
theorem dX6_drift_131 : decode cX6_drift 131 = .ok (.iload_n 3, 1) := by decide +kernel
theorem dX6_drift_132 : decode cX6_drift 132 = .ok (.iconst 1, 1) := by decide +kernel
theorem dX6_drift_133 : decode cX6_drift 133 = .ok (.if_icmp .ne 21, 3) := by decide +kernel
theorem dX6_drift_136 : decode cX6_drift 136 = .ok (.aload_n 0, 1) := by decide +kernel
theorem dX6_drift_137 : decode cX6_drift 137 = .ok (.getfield 7, 3) := by decide +kernel
theorem dX6_drift_140 : decode cX6_drift 140 = .ok (.bipush 123, 2) := by decide +kernel
theorem dX6_drift_142 : decode cX6_drift 142 = .ok (.iaload, 1) := by decide +kernel
theorem dX6_drift_143 : decode cX6_drift 143 = .ok (.aload_n 0, 1) := by decide +kernel
theorem dX6_drift_144 : decode cX6_drift 144 = .ok (.getfield 7, 3) := by decide +kernel
theorem dX6_drift_147 : decode cX6_drift 147 = .ok (.bipush 23, 2) := by decide +kernel
theorem dX6_drift_149 : decode cX6_drift 149 = .ok (.iaload, 1) := by decide +kernel
theorem dX6_drift_150 : decode cX6_drift 150 = .ok (.isub, 1) := by decide +kernel
theorem dX6_drift_151 : decode cX6_drift 151 = .ok (.goto 10, 3) := by decide +kernel
theorem dX6_drift_154 : decode cX6_drift 154 = .ok (.aload_n 0, 1) := by decide +kernel
theorem dX6_drift_155 : decode cX6_drift 155 = .ok (.getfield 7, 3) := by decide +kernel
theorem dX6_drift_158 : decode cX6_drift 158 = .ok (.bipush 116, 2) := by decide +kernel
theorem dX6_drift_160 : decode cX6_drift 160 = .ok (.iaload, 1) := by decide +kernel
theorem dX6_drift_161 : decode cX6_drift 161 = .ok (.ireturn, 1) := by decide +kernel
theorem dX6_keep_0 : decode cX6_keep 0 = .ok (.iload_n 1, 1) := by decide +kernel
theorem dX6_keep_1 : decode cX6_keep 1 = .ok (.i2l, 1) := by decide +kernel
theorem dX6_keep_2 : decode cX6_keep 2 = .ok (.lconst 0, 1) := by decide +kernel
theorem dX6_keep_3 : decode cX6_keep 3 = .ok (.lconst 1, 1) := by decide +kernel
theorem dX6_keep_4 : decode cX6_keep 4 = .ok (.invokestatic 53, 3) := by decide +kernel
theorem dX6_keep_7 : decode cX6_keep 7 = .ok (.ifCond .ne 5, 3) := by decide +kernel
theorem dX6_keep_10 : decode cX6_keep 10 = .ok (.iconst (-1), 1) := by decide +kernel
theorem dX6_keep_11 : decode cX6_keep 11 = .ok (.ireturn, 1) := by decide +kernel
theorem dX6_keep_12 : decode cX6_keep 12 = .ok (.aload_n 0, 1) := by decide +kernel
theorem dX6_keep_13 : decode cX6_keep 13 = .ok (.iconst 0, 1) := by decide +kernel
theorem dX6_keep_14 : decode cX6_keep 14 = .ok (.bipush 25, 2) := by decide +kernel
theorem dX6_keep_16 : decode cX6_keep 16 = .ok (.iload_n 1, 1) := by decide +kernel
theorem dX6_keep_17 : decode cX6_keep 17 = .ok (.iconst 1, 1) := by decide +kernel
theorem dX6_keep_18 : decode cX6_keep 18 = .ok (.iadd, 1) := by decide +kernel
theorem dX6_keep_19 : decode cX6_keep 19 = .ok (.imul, 1) := by decide +kernel
theorem dX6_keep_20 : decode cX6_keep 20 = .ok (.invokevirtual 201, 3) := by decide +kernel
theorem dX6_keep_23 : decode cX6_keep 23 = .ok (.aload_n 0, 1) := by decide +kernel
theorem dX6_keep_24 : decode cX6_keep 24 = .ok (.getfield 38, 3) := by decide +kernel
theorem dX6_keep_27 : decode cX6_keep 27 = .ok (.iload_n 1, 1) := by decide +kernel
theorem dX6_keep_28 : decode cX6_keep 28 = .ok (.baload, 1) := by decide +kernel
theorem dX6_keep_29 : decode cX6_keep 29 = .ok (.ifCond .eq 7, 3) := by decide +kernel
theorem dX6_keep_32 : decode cX6_keep 32 = .ok (.iconst 1, 1) := by decide +kernel
theorem dX6_keep_33 : decode cX6_keep 33 = .ok (.goto 4, 3) := by decide +kernel
theorem dX6_keep_36 : decode cX6_keep 36 = .ok (.iconst 0, 1) := by decide +kernel
theorem dX6_keep_37 : decode cX6_keep 37 = .ok (.istore_n 2, 1) := by decide +kernel
theorem dX6_keep_38 : decode cX6_keep 38 = .ok (.aload_n 0, 1) := by decide +kernel
theorem dX6_keep_39 : decode cX6_keep 39 = .ok (.getfield 38, 3) := by decide +kernel
theorem dX6_keep_42 : decode cX6_keep 42 = .ok (.iload_n 1, 1) := by decide +kernel
theorem dX6_keep_43 : decode cX6_keep 43 = .ok (.iconst 1, 1) := by decide +kernel
theorem dX6_keep_44 : decode cX6_keep 44 = .ok (.bastore, 1) := by decide +kernel
theorem dX6_keep_45 : decode cX6_keep 45 = .ok (.iload_n 2, 1) := by decide +kernel
theorem dX6_keep_46 : decode cX6_keep 46 = .ok (.ireturn, 1) := by decide +kernel
theorem dX6_back_0 : decode cX6_back 0 = .ok (.iload_n 1, 1) := by decide +kernel
theorem dX6_back_1 : decode cX6_back 1 = .ok (.i2l, 1) := by decide +kernel
theorem dX6_back_2 : decode cX6_back 2 = .ok (.lconst 0, 1) := by decide +kernel
theorem dX6_back_3 : decode cX6_back 3 = .ok (.lconst 1, 1) := by decide +kernel
theorem dX6_back_4 : decode cX6_back 4 = .ok (.invokestatic 53, 3) := by decide +kernel
theorem dX6_back_7 : decode cX6_back 7 = .ok (.ifCond .ne 5, 3) := by decide +kernel
theorem dX6_back_10 : decode cX6_back 10 = .ok (.iconst (-1), 1) := by decide +kernel
theorem dX6_back_11 : decode cX6_back 11 = .ok (.ireturn, 1) := by decide +kernel
theorem dX6_back_12 : decode cX6_back 12 = .ok (.aload_n 0, 1) := by decide +kernel
theorem dX6_back_13 : decode cX6_back 13 = .ok (.getfield 38, 3) := by decide +kernel
theorem dX6_back_16 : decode cX6_back 16 = .ok (.iload_n 1, 1) := by decide +kernel
theorem dX6_back_17 : decode cX6_back 17 = .ok (.baload, 1) := by decide +kernel
theorem dX6_back_18 : decode cX6_back 18 = .ok (.ifCond .ne 6, 3) := by decide +kernel
theorem dX6_back_21 : decode cX6_back 21 = .ok (.bipush (-2), 2) := by decide +kernel
theorem dX6_back_23 : decode cX6_back 23 = .ok (.ireturn, 1) := by decide +kernel
theorem dX6_back_24 : decode cX6_back 24 = .ok (.aload_n 0, 1) := by decide +kernel
theorem dX6_back_25 : decode cX6_back 25 = .ok (.bipush 25, 2) := by decide +kernel
theorem dX6_back_27 : decode cX6_back 27 = .ok (.iload_n 1, 1) := by decide +kernel
theorem dX6_back_28 : decode cX6_back 28 = .ok (.iconst 1, 1) := by decide +kernel
theorem dX6_back_29 : decode cX6_back 29 = .ok (.iadd, 1) := by decide +kernel
theorem dX6_back_30 : decode cX6_back 30 = .ok (.imul, 1) := by decide +kernel
theorem dX6_back_31 : decode cX6_back 31 = .ok (.iconst 0, 1) := by decide +kernel
theorem dX6_back_32 : decode cX6_back 32 = .ok (.invokevirtual 201, 3) := by decide +kernel
theorem dX6_back_35 : decode cX6_back 35 = .ok (.aload_n 0, 1) := by decide +kernel
theorem dX6_back_36 : decode cX6_back 36 = .ok (.getfield 7, 3) := by decide +kernel
theorem dX6_back_39 : decode cX6_back 39 = .ok (.bipush 21, 2) := by decide +kernel
theorem dX6_back_41 : decode cX6_back 41 = .ok (.iaload, 1) := by decide +kernel
theorem dX6_back_42 : decode cX6_back 42 = .ok (.ireturn, 1) := by decide +kernel
theorem dX6_sheet_0 : decode cX6_sheet 0 = .ok (.iload_n 1, 1) := by decide +kernel
theorem dX6_sheet_1 : decode cX6_sheet 1 = .ok (.i2l, 1) := by decide +kernel
theorem dX6_sheet_2 : decode cX6_sheet 2 = .ok (.lconst 0, 1) := by decide +kernel
theorem dX6_sheet_3 : decode cX6_sheet 3 = .ok (.ldc2_w 264, 3) := by decide +kernel
theorem dX6_sheet_6 : decode cX6_sheet 6 = .ok (.invokestatic 53, 3) := by decide +kernel
theorem dX6_sheet_9 : decode cX6_sheet 9 = .ok (.ifCond .eq 21, 3) := by decide +kernel
theorem dX6_sheet_12 : decode cX6_sheet 12 = .ok (.iload_n 2, 1) := by decide +kernel
theorem dX6_sheet_13 : decode cX6_sheet 13 = .ok (.i2l, 1) := by decide +kernel
theorem dX6_sheet_14 : decode cX6_sheet 14 = .ok (.lconst 0, 1) := by decide +kernel
theorem dX6_sheet_15 : decode cX6_sheet 15 = .ok (.ldc2_w 199, 3) := by decide +kernel
theorem dX6_sheet_18 : decode cX6_sheet 18 = .ok (.invokestatic 53, 3) := by decide +kernel
theorem dX6_sheet_21 : decode cX6_sheet 21 = .ok (.ifCond .eq 9, 3) := by decide +kernel
theorem dX6_sheet_24 : decode cX6_sheet 24 = .ok (.iload_n 3, 1) := by decide +kernel
theorem dX6_sheet_25 : decode cX6_sheet 25 = .ok (.bipush 40, 2) := by decide +kernel
theorem dX6_sheet_27 : decode cX6_sheet 27 = .ok (.if_icmp .le 5, 3) := by decide +kernel
theorem dX6_sheet_30 : decode cX6_sheet 30 = .ok (.iconst (-1), 1) := by decide +kernel
theorem dX6_sheet_31 : decode cX6_sheet 31 = .ok (.ireturn, 1) := by decide +kernel
theorem dX6_sheet_32 : decode cX6_sheet 32 = .ok (.iload_n 3, 1) := by decide +kernel
theorem dX6_sheet_33 : decode cX6_sheet 33 = .ok (.ifCond .ge 6, 3) := by decide +kernel
theorem dX6_sheet_36 : decode cX6_sheet 36 = .ok (.bipush (-14), 2) := by decide +kernel
theorem dX6_sheet_38 : decode cX6_sheet 38 = .ok (.ireturn, 1) := by decide +kernel
theorem dX6_sheet_39 : decode cX6_sheet 39 = .ok (.aload_n 0, 1) := by decide +kernel
theorem dX6_sheet_40 : decode cX6_sheet 40 = .ok (.getfield 42, 3) := by decide +kernel
theorem dX6_sheet_43 : decode cX6_sheet 43 = .ok (.iload_n 1, 1) := by decide +kernel
theorem dX6_sheet_44 : decode cX6_sheet 44 = .ok (.iload_n 2, 1) := by decide +kernel
theorem dX6_sheet_45 : decode cX6_sheet 45 = .ok (.iastore, 1) := by decide +kernel
theorem dX6_sheet_46 : decode cX6_sheet 46 = .ok (.aload_n 0, 1) := by decide +kernel
theorem dX6_sheet_47 : decode cX6_sheet 47 = .ok (.getfield 45, 3) := by decide +kernel
theorem dX6_sheet_50 : decode cX6_sheet 50 = .ok (.iload_n 1, 1) := by decide +kernel
theorem dX6_sheet_51 : decode cX6_sheet 51 = .ok (.iload_n 3, 1) := by decide +kernel
theorem dX6_sheet_52 : decode cX6_sheet 52 = .ok (.iastore, 1) := by decide +kernel
theorem dX6_sheet_53 : decode cX6_sheet 53 = .ok (.iconst 0, 1) := by decide +kernel
theorem dX6_sheet_54 : decode cX6_sheet 54 = .ok (.istore 4, 2) := by decide +kernel
theorem dX6_sheet_56 : decode cX6_sheet 56 = .ok (.iload 4, 2) := by decide +kernel
theorem dX6_sheet_58 : decode cX6_sheet 58 = .ok (.bipush 40, 2) := by decide +kernel
theorem dX6_sheet_60 : decode cX6_sheet 60 = .ok (.if_icmp .ge 22, 3) := by decide +kernel
theorem dX6_sheet_63 : decode cX6_sheet 63 = .ok (.aload_n 0, 1) := by decide +kernel
theorem dX6_sheet_64 : decode cX6_sheet 64 = .ok (.getfield 48, 3) := by decide +kernel
theorem dX6_sheet_67 : decode cX6_sheet 67 = .ok (.bipush 40, 2) := by decide +kernel
theorem dX6_sheet_69 : decode cX6_sheet 69 = .ok (.iload_n 1, 1) := by decide +kernel
theorem dX6_sheet_70 : decode cX6_sheet 70 = .ok (.imul, 1) := by decide +kernel
theorem dX6_sheet_71 : decode cX6_sheet 71 = .ok (.iload 4, 2) := by decide +kernel
theorem dX6_sheet_73 : decode cX6_sheet 73 = .ok (.iadd, 1) := by decide +kernel
theorem dX6_sheet_74 : decode cX6_sheet 74 = .ok (.iconst 0, 1) := by decide +kernel
theorem dX6_sheet_75 : decode cX6_sheet 75 = .ok (.iastore, 1) := by decide +kernel
theorem dX6_sheet_76 : decode cX6_sheet 76 = .ok (.iinc 4 1, 3) := by decide +kernel
theorem dX6_sheet_79 : decode cX6_sheet 79 = .ok (.goto (-23), 3) := by decide +kernel
theorem dX6_sheet_82 : decode cX6_sheet 82 = .ok (.iconst 1, 1) := by decide +kernel
theorem dX6_sheet_83 : decode cX6_sheet 83 = .ok (.ireturn, 1) := by decide +kernel
theorem dX6_lay_0 : decode cX6_lay 0 = .ok (.iload_n 1, 1) := by decide +kernel
theorem dX6_lay_1 : decode cX6_lay 1 = .ok (.i2l, 1) := by decide +kernel
theorem dX6_lay_2 : decode cX6_lay 2 = .ok (.lconst 0, 1) := by decide +kernel
theorem dX6_lay_3 : decode cX6_lay 3 = .ok (.ldc2_w 264, 3) := by decide +kernel
theorem dX6_lay_6 : decode cX6_lay 6 = .ok (.invokestatic 53, 3) := by decide +kernel
theorem dX6_lay_9 : decode cX6_lay 9 = .ok (.ifCond .ne 5, 3) := by decide +kernel
theorem dX6_lay_12 : decode cX6_lay 12 = .ok (.iconst (-1), 1) := by decide +kernel
theorem dX6_lay_13 : decode cX6_lay 13 = .ok (.ireturn, 1) := by decide +kernel
theorem dX6_lay_14 : decode cX6_lay 14 = .ok (.aload_n 0, 1) := by decide +kernel
theorem dX6_lay_15 : decode cX6_lay 15 = .ok (.getfield 42, 3) := by decide +kernel
theorem dX6_lay_18 : decode cX6_lay 18 = .ok (.iload_n 1, 1) := by decide +kernel
theorem dX6_lay_19 : decode cX6_lay 19 = .ok (.iaload, 1) := by decide +kernel
theorem dX6_lay_20 : decode cX6_lay 20 = .ok (.bipush (-4), 2) := by decide +kernel
theorem dX6_lay_22 : decode cX6_lay 22 = .ok (.if_icmp .ne 6, 3) := by decide +kernel
theorem dX6_lay_25 : decode cX6_lay 25 = .ok (.bipush (-11), 2) := by decide +kernel
theorem dX6_lay_27 : decode cX6_lay 27 = .ok (.ireturn, 1) := by decide +kernel
theorem dX6_lay_28 : decode cX6_lay 28 = .ok (.iload_n 2, 1) := by decide +kernel
theorem dX6_lay_29 : decode cX6_lay 29 = .ok (.i2l, 1) := by decide +kernel
theorem dX6_lay_30 : decode cX6_lay 30 = .ok (.lconst 0, 1) := by decide +kernel
theorem dX6_lay_31 : decode cX6_lay 31 = .ok (.aload_n 0, 1) := by decide +kernel
theorem dX6_lay_32 : decode cX6_lay 32 = .ok (.getfield 45, 3) := by decide +kernel
theorem dX6_lay_35 : decode cX6_lay 35 = .ok (.iload_n 1, 1) := by decide +kernel
theorem dX6_lay_36 : decode cX6_lay 36 = .ok (.iaload, 1) := by decide +kernel
theorem dX6_lay_37 : decode cX6_lay 37 = .ok (.iconst 1, 1) := by decide +kernel
theorem dX6_lay_38 : decode cX6_lay 38 = .ok (.isub, 1) := by decide +kernel
theorem dX6_lay_39 : decode cX6_lay 39 = .ok (.i2l, 1) := by decide +kernel
theorem dX6_lay_40 : decode cX6_lay 40 = .ok (.invokestatic 53, 3) := by decide +kernel
theorem dX6_lay_43 : decode cX6_lay 43 = .ok (.ifCond .ne 6, 3) := by decide +kernel
theorem dX6_lay_46 : decode cX6_lay 46 = .ok (.bipush (-12), 2) := by decide +kernel
theorem dX6_lay_48 : decode cX6_lay 48 = .ok (.ireturn, 1) := by decide +kernel
theorem dX6_lay_49 : decode cX6_lay 49 = .ok (.aload_n 0, 1) := by decide +kernel
theorem dX6_lay_50 : decode cX6_lay 50 = .ok (.getfield 48, 3) := by decide +kernel
theorem dX6_lay_53 : decode cX6_lay 53 = .ok (.bipush 40, 2) := by decide +kernel
theorem dX6_lay_55 : decode cX6_lay 55 = .ok (.iload_n 1, 1) := by decide +kernel
theorem dX6_lay_56 : decode cX6_lay 56 = .ok (.imul, 1) := by decide +kernel
theorem dX6_lay_57 : decode cX6_lay 57 = .ok (.iload_n 2, 1) := by decide +kernel
theorem dX6_lay_58 : decode cX6_lay 58 = .ok (.iadd, 1) := by decide +kernel
theorem dX6_lay_59 : decode cX6_lay 59 = .ok (.aload_n 0, 1) := by decide +kernel
theorem dX6_lay_60 : decode cX6_lay 60 = .ok (.getfield 42, 3) := by decide +kernel
theorem dX6_lay_63 : decode cX6_lay 63 = .ok (.iload_n 1, 1) := by decide +kernel
theorem dX6_lay_64 : decode cX6_lay 64 = .ok (.iaload, 1) := by decide +kernel
theorem dX6_lay_65 : decode cX6_lay 65 = .ok (.ifCond .ne 13, 3) := by decide +kernel
theorem dX6_lay_68 : decode cX6_lay 68 = .ok (.iload_n 3, 1) := by decide +kernel
theorem dX6_lay_69 : decode cX6_lay 69 = .ok (.bipush 24, 2) := by decide +kernel
theorem dX6_lay_71 : decode cX6_lay 71 = .ok (.ishl, 1) := by decide +kernel
theorem dX6_lay_72 : decode cX6_lay 72 = .ok (.bipush 24, 2) := by decide +kernel
theorem dX6_lay_74 : decode cX6_lay 74 = .ok (.ishr, 1) := by decide +kernel
theorem dX6_lay_75 : decode cX6_lay 75 = .ok (.goto 24, 3) := by decide +kernel
theorem dX6_lay_78 : decode cX6_lay 78 = .ok (.aload_n 0, 1) := by decide +kernel
theorem dX6_lay_79 : decode cX6_lay 79 = .ok (.getfield 42, 3) := by decide +kernel
theorem dX6_lay_82 : decode cX6_lay 82 = .ok (.iload_n 1, 1) := by decide +kernel
theorem dX6_lay_83 : decode cX6_lay 83 = .ok (.iaload, 1) := by decide +kernel
theorem dX6_lay_84 : decode cX6_lay 84 = .ok (.iconst 1, 1) := by decide +kernel
theorem dX6_lay_85 : decode cX6_lay 85 = .ok (.if_icmp .ne 13, 3) := by decide +kernel
theorem dX6_lay_88 : decode cX6_lay 88 = .ok (.iload_n 3, 1) := by decide +kernel
theorem dX6_lay_89 : decode cX6_lay 89 = .ok (.bipush 16, 2) := by decide +kernel
theorem dX6_lay_91 : decode cX6_lay 91 = .ok (.ishl, 1) := by decide +kernel
theorem dX6_lay_92 : decode cX6_lay 92 = .ok (.bipush 16, 2) := by decide +kernel
theorem dX6_lay_94 : decode cX6_lay 94 = .ok (.ishr, 1) := by decide +kernel
theorem dX6_lay_95 : decode cX6_lay 95 = .ok (.goto 4, 3) := by decide +kernel
theorem dX6_lay_98 : decode cX6_lay 98 = .ok (.iload_n 3, 1) := by decide +kernel
theorem dX6_lay_99 : decode cX6_lay 99 = .ok (.iastore, 1) := by decide +kernel
theorem dX6_lay_100 : decode cX6_lay 100 = .ok (.iconst 1, 1) := by decide +kernel
theorem dX6_lay_101 : decode cX6_lay 101 = .ok (.ireturn, 1) := by decide +kernel
theorem dX6_read_0 : decode cX6_read 0 = .ok (.iload_n 1, 1) := by decide +kernel
theorem dX6_read_1 : decode cX6_read 1 = .ok (.i2l, 1) := by decide +kernel
theorem dX6_read_2 : decode cX6_read 2 = .ok (.lconst 0, 1) := by decide +kernel
theorem dX6_read_3 : decode cX6_read 3 = .ok (.ldc2_w 264, 3) := by decide +kernel
theorem dX6_read_6 : decode cX6_read 6 = .ok (.invokestatic 53, 3) := by decide +kernel
theorem dX6_read_9 : decode cX6_read 9 = .ok (.ifCond .eq 28, 3) := by decide +kernel
theorem dX6_read_12 : decode cX6_read 12 = .ok (.iload_n 2, 1) := by decide +kernel
theorem dX6_read_13 : decode cX6_read 13 = .ok (.i2l, 1) := by decide +kernel
theorem dX6_read_14 : decode cX6_read 14 = .ok (.lconst 0, 1) := by decide +kernel
theorem dX6_read_15 : decode cX6_read 15 = .ok (.ldc2_w 199, 3) := by decide +kernel
theorem dX6_read_18 : decode cX6_read 18 = .ok (.invokestatic 53, 3) := by decide +kernel
theorem dX6_read_21 : decode cX6_read 21 = .ok (.ifCond .eq 16, 3) := by decide +kernel
theorem dX6_read_24 : decode cX6_read 24 = .ok (.iload 4, 2) := by decide +kernel
theorem dX6_read_26 : decode cX6_read 26 = .ok (.i2l, 1) := by decide +kernel
theorem dX6_read_27 : decode cX6_read 27 = .ok (.lconst 0, 1) := by decide +kernel
theorem dX6_read_28 : decode cX6_read 28 = .ok (.ldc2_w 175, 3) := by decide +kernel
theorem dX6_read_31 : decode cX6_read 31 = .ok (.invokestatic 53, 3) := by decide +kernel
theorem dX6_read_34 : decode cX6_read 34 = .ok (.ifCond .ne 5, 3) := by decide +kernel
theorem dX6_read_37 : decode cX6_read 37 = .ok (.iconst (-1), 1) := by decide +kernel
theorem dX6_read_38 : decode cX6_read 38 = .ok (.ireturn, 1) := by decide +kernel
theorem dX6_read_39 : decode cX6_read 39 = .ok (.aload_n 0, 1) := by decide +kernel
theorem dX6_read_40 : decode cX6_read 40 = .ok (.iconst 0, 1) := by decide +kernel
theorem dX6_read_41 : decode cX6_read 41 = .ok (.bipush 75, 2) := by decide +kernel
theorem dX6_read_43 : decode cX6_read 43 = .ok (.invokevirtual 201, 3) := by decide +kernel
theorem dX6_read_46 : decode cX6_read 46 = .ok (.iconst 0, 1) := by decide +kernel
theorem dX6_read_47 : decode cX6_read 47 = .ok (.istore 5, 2) := by decide +kernel
theorem dX6_read_49 : decode cX6_read 49 = .ok (.iconst 0, 1) := by decide +kernel
theorem dX6_read_50 : decode cX6_read 50 = .ok (.istore 6, 2) := by decide +kernel
theorem dX6_read_52 : decode cX6_read 52 = .ok (.iconst 0, 1) := by decide +kernel
theorem dX6_read_53 : decode cX6_read 53 = .ok (.istore 7, 2) := by decide +kernel
theorem dX6_read_55 : decode cX6_read 55 = .ok (.iload 7, 2) := by decide +kernel
theorem dX6_read_57 : decode cX6_read 57 = .ok (.iconst 2, 1) := by decide +kernel
theorem dX6_read_58 : decode cX6_read 58 = .ok (.iload 4, 2) := by decide +kernel
theorem dX6_read_60 : decode cX6_read 60 = .ok (.imul, 1) := by decide +kernel
theorem dX6_read_61 : decode cX6_read 61 = .ok (.if_icmp .ge 135, 3) := by decide +kernel
theorem dX6_read_64 : decode cX6_read 64 = .ok (.iload 5, 2) := by decide +kernel
theorem dX6_read_66 : decode cX6_read 66 = .ok (.ifCond .ne 130, 3) := by decide +kernel
theorem dX6_read_69 : decode cX6_read 69 = .ok (.aload_n 0, 1) := by decide +kernel
theorem dX6_read_70 : decode cX6_read 70 = .ok (.getfield 42, 3) := by decide +kernel
theorem dX6_read_73 : decode cX6_read 73 = .ok (.iload_n 1, 1) := by decide +kernel
theorem dX6_read_74 : decode cX6_read 74 = .ok (.iaload, 1) := by decide +kernel
theorem dX6_read_75 : decode cX6_read 75 = .ok (.bipush (-4), 2) := by decide +kernel
theorem dX6_read_77 : decode cX6_read 77 = .ok (.if_icmp .ne 7, 3) := by decide +kernel
theorem dX6_read_80 : decode cX6_read 80 = .ok (.iconst 1, 1) := by decide +kernel
theorem dX6_read_81 : decode cX6_read 81 = .ok (.goto 44, 3) := by decide +kernel
theorem dX6_read_84 : decode cX6_read 84 = .ok (.aload_n 0, 1) := by decide +kernel
theorem dX6_read_85 : decode cX6_read 85 = .ok (.getfield 42, 3) := by decide +kernel
theorem dX6_read_88 : decode cX6_read 88 = .ok (.iload_n 1, 1) := by decide +kernel
theorem dX6_read_89 : decode cX6_read 89 = .ok (.iaload, 1) := by decide +kernel
theorem dX6_read_90 : decode cX6_read 90 = .ok (.iload_n 2, 1) := by decide +kernel
theorem dX6_read_91 : decode cX6_read 91 = .ok (.if_icmp .eq 7, 3) := by decide +kernel
theorem dX6_read_94 : decode cX6_read 94 = .ok (.iconst 3, 1) := by decide +kernel
theorem dX6_read_95 : decode cX6_read 95 = .ok (.goto 30, 3) := by decide +kernel
theorem dX6_read_98 : decode cX6_read 98 = .ok (.iload_n 3, 1) := by decide +kernel
theorem dX6_read_99 : decode cX6_read 99 = .ok (.i2l, 1) := by decide +kernel
theorem dX6_read_100 : decode cX6_read 100 = .ok (.iload 7, 2) := by decide +kernel
theorem dX6_read_102 : decode cX6_read 102 = .ok (.i2l, 1) := by decide +kernel
theorem dX6_read_103 : decode cX6_read 103 = .ok (.ladd, 1) := by decide +kernel
theorem dX6_read_104 : decode cX6_read 104 = .ok (.lconst 0, 1) := by decide +kernel
theorem dX6_read_105 : decode cX6_read 105 = .ok (.aload_n 0, 1) := by decide +kernel
theorem dX6_read_106 : decode cX6_read 106 = .ok (.getfield 45, 3) := by decide +kernel
theorem dX6_read_109 : decode cX6_read 109 = .ok (.iload_n 1, 1) := by decide +kernel
theorem dX6_read_110 : decode cX6_read 110 = .ok (.iaload, 1) := by decide +kernel
theorem dX6_read_111 : decode cX6_read 111 = .ok (.iconst 1, 1) := by decide +kernel
theorem dX6_read_112 : decode cX6_read 112 = .ok (.isub, 1) := by decide +kernel
theorem dX6_read_113 : decode cX6_read 113 = .ok (.i2l, 1) := by decide +kernel
theorem dX6_read_114 : decode cX6_read 114 = .ok (.invokestatic 53, 3) := by decide +kernel
theorem dX6_read_117 : decode cX6_read 117 = .ok (.ifCond .ne 7, 3) := by decide +kernel
theorem dX6_read_120 : decode cX6_read 120 = .ok (.iconst 2, 1) := by decide +kernel
theorem dX6_read_121 : decode cX6_read 121 = .ok (.goto 4, 3) := by decide +kernel
theorem dX6_read_124 : decode cX6_read 124 = .ok (.iconst 0, 1) := by decide +kernel
theorem dX6_read_125 : decode cX6_read 125 = .ok (.istore 5, 2) := by decide +kernel
theorem dX6_read_127 : decode cX6_read 127 = .ok (.iload 5, 2) := by decide +kernel
theorem dX6_read_129 : decode cX6_read 129 = .ok (.ifCond .ne 61, 3) := by decide +kernel
theorem dX6_read_132 : decode cX6_read 132 = .ok (.iload 7, 2) := by decide +kernel
theorem dX6_read_134 : decode cX6_read 134 = .ok (.iconst 2, 1) := by decide +kernel
theorem dX6_read_135 : decode cX6_read 135 = .ok (.irem, 1) := by decide +kernel
theorem dX6_read_136 : decode cX6_read 136 = .ok (.iconst 1, 1) := by decide +kernel
theorem dX6_read_137 : decode cX6_read 137 = .ok (.if_icmp .ne 53, 3) := by decide +kernel
theorem dX6_read_140 : decode cX6_read 140 = .ok (.bipush 40, 2) := by decide +kernel
theorem dX6_read_142 : decode cX6_read 142 = .ok (.iload_n 1, 1) := by decide +kernel
theorem dX6_read_143 : decode cX6_read 143 = .ok (.imul, 1) := by decide +kernel
theorem dX6_read_144 : decode cX6_read 144 = .ok (.iload_n 3, 1) := by decide +kernel
theorem dX6_read_145 : decode cX6_read 145 = .ok (.iadd, 1) := by decide +kernel
theorem dX6_read_146 : decode cX6_read 146 = .ok (.iload 7, 2) := by decide +kernel
theorem dX6_read_148 : decode cX6_read 148 = .ok (.iadd, 1) := by decide +kernel
theorem dX6_read_149 : decode cX6_read 149 = .ok (.istore 8, 2) := by decide +kernel
theorem dX6_read_151 : decode cX6_read 151 = .ok (.aload_n 0, 1) := by decide +kernel
theorem dX6_read_152 : decode cX6_read 152 = .ok (.aload_n 0, 1) := by decide +kernel
theorem dX6_read_153 : decode cX6_read 153 = .ok (.getfield 48, 3) := by decide +kernel
theorem dX6_read_156 : decode cX6_read 156 = .ok (.iload 8, 2) := by decide +kernel
theorem dX6_read_158 : decode cX6_read 158 = .ok (.iconst 1, 1) := by decide +kernel
theorem dX6_read_159 : decode cX6_read 159 = .ok (.isub, 1) := by decide +kernel
theorem dX6_read_160 : decode cX6_read 160 = .ok (.iaload, 1) := by decide +kernel
theorem dX6_read_161 : decode cX6_read 161 = .ok (.aload_n 0, 1) := by decide +kernel
theorem dX6_read_162 : decode cX6_read 162 = .ok (.getfield 48, 3) := by decide +kernel
theorem dX6_read_165 : decode cX6_read 165 = .ok (.iload 8, 2) := by decide +kernel
theorem dX6_read_167 : decode cX6_read 167 = .ok (.iaload, 1) := by decide +kernel
theorem dX6_read_168 : decode cX6_read 168 = .ok (.invokevirtual 189, 3) := by decide +kernel
theorem dX6_read_171 : decode cX6_read 171 = .ok (.ifCond .ge 16, 3) := by decide +kernel
theorem dX6_read_174 : decode cX6_read 174 = .ok (.aload_n 0, 1) := by decide +kernel
theorem dX6_read_175 : decode cX6_read 175 = .ok (.bipush 75, 2) := by decide +kernel
theorem dX6_read_177 : decode cX6_read 177 = .ok (.iconst 0, 1) := by decide +kernel
theorem dX6_read_178 : decode cX6_read 178 = .ok (.invokevirtual 201, 3) := by decide +kernel
theorem dX6_read_181 : decode cX6_read 181 = .ok (.bipush (-20), 2) := by decide +kernel
theorem dX6_read_183 : decode cX6_read 183 = .ok (.iload 6, 2) := by decide +kernel
theorem dX6_read_185 : decode cX6_read 185 = .ok (.isub, 1) := by decide +kernel
theorem dX6_read_186 : decode cX6_read 186 = .ok (.ireturn, 1) := by decide +kernel
theorem dX6_read_187 : decode cX6_read 187 = .ok (.iinc 6 1, 3) := by decide +kernel
theorem dX6_read_190 : decode cX6_read 190 = .ok (.iinc 7 1, 3) := by decide +kernel
theorem dX6_read_193 : decode cX6_read 193 = .ok (.goto (-138), 3) := by decide +kernel
theorem dX6_read_196 : decode cX6_read 196 = .ok (.aload_n 0, 1) := by decide +kernel
theorem dX6_read_197 : decode cX6_read 197 = .ok (.iload 5, 2) := by decide +kernel
theorem dX6_read_199 : decode cX6_read 199 = .ok (.putfield 266, 3) := by decide +kernel
theorem dX6_read_202 : decode cX6_read 202 = .ok (.iload 6, 2) := by decide +kernel
theorem dX6_read_204 : decode cX6_read 204 = .ok (.ireturn, 1) := by decide +kernel
theorem dX6_torn_0 : decode cX6_torn 0 = .ok (.aload_n 0, 1) := by decide +kernel
theorem dX6_torn_1 : decode cX6_torn 1 = .ok (.getfield 266, 3) := by decide +kernel
theorem dX6_torn_4 : decode cX6_torn 4 = .ok (.ireturn, 1) := by decide +kernel
theorem dX6_bitsOf_0 : decode cX6_bitsOf 0 = .ok (.iconst 0, 1) := by decide +kernel
theorem dX6_bitsOf_1 : decode cX6_bitsOf 1 = .ok (.istore_n 1, 1) := by decide +kernel
theorem dX6_bitsOf_2 : decode cX6_bitsOf 2 = .ok (.iconst 0, 1) := by decide +kernel
theorem dX6_bitsOf_3 : decode cX6_bitsOf 3 = .ok (.istore_n 2, 1) := by decide +kernel
theorem dX6_bitsOf_4 : decode cX6_bitsOf 4 = .ok (.iload_n 2, 1) := by decide +kernel
theorem dX6_bitsOf_5 : decode cX6_bitsOf 5 = .ok (.bipush 8, 2) := by decide +kernel
theorem dX6_bitsOf_7 : decode cX6_bitsOf 7 = .ok (.if_icmp .ge 17, 3) := by decide +kernel
theorem dX6_bitsOf_10 : decode cX6_bitsOf 10 = .ok (.iload_n 1, 1) := by decide +kernel
theorem dX6_bitsOf_11 : decode cX6_bitsOf 11 = .ok (.iload_n 0, 1) := by decide +kernel
theorem dX6_bitsOf_12 : decode cX6_bitsOf 12 = .ok (.iload_n 2, 1) := by decide +kernel
theorem dX6_bitsOf_13 : decode cX6_bitsOf 13 = .ok (.ishr, 1) := by decide +kernel
theorem dX6_bitsOf_14 : decode cX6_bitsOf 14 = .ok (.iconst 1, 1) := by decide +kernel
theorem dX6_bitsOf_15 : decode cX6_bitsOf 15 = .ok (.iand, 1) := by decide +kernel
theorem dX6_bitsOf_16 : decode cX6_bitsOf 16 = .ok (.iadd, 1) := by decide +kernel
theorem dX6_bitsOf_17 : decode cX6_bitsOf 17 = .ok (.istore_n 1, 1) := by decide +kernel
theorem dX6_bitsOf_18 : decode cX6_bitsOf 18 = .ok (.iinc 2 1, 3) := by decide +kernel
theorem dX6_bitsOf_21 : decode cX6_bitsOf 21 = .ok (.goto (-17), 3) := by decide +kernel
theorem dX6_bitsOf_24 : decode cX6_bitsOf 24 = .ok (.iload_n 1, 1) := by decide +kernel
theorem dX6_bitsOf_25 : decode cX6_bitsOf 25 = .ok (.ireturn, 1) := by decide +kernel
theorem dX6_count_0 : decode cX6_count 0 = .ok (.iload_n 1, 1) := by decide +kernel
theorem dX6_count_1 : decode cX6_count 1 = .ok (.tableswitch 121 0 5 #[39, 44, 74, 79, 102, 110], 39) := by decide +kernel
theorem dX6_count_40 : decode cX6_count 40 = .ok (.aload_n 0, 1) := by decide +kernel
theorem dX6_count_41 : decode cX6_count 41 = .ok (.getfield 135, 3) := by decide +kernel
theorem dX6_count_44 : decode cX6_count 44 = .ok (.ireturn, 1) := by decide +kernel
theorem dX6_count_45 : decode cX6_count 45 = .ok (.aload_n 0, 1) := by decide +kernel
theorem dX6_count_46 : decode cX6_count 46 = .ok (.getfield 38, 3) := by decide +kernel
theorem dX6_count_49 : decode cX6_count 49 = .ok (.iconst 0, 1) := by decide +kernel
theorem dX6_count_50 : decode cX6_count 50 = .ok (.baload, 1) := by decide +kernel
theorem dX6_count_51 : decode cX6_count 51 = .ok (.ifCond .eq 7, 3) := by decide +kernel
theorem dX6_count_54 : decode cX6_count 54 = .ok (.iconst 1, 1) := by decide +kernel
theorem dX6_count_55 : decode cX6_count 55 = .ok (.goto 4, 3) := by decide +kernel
theorem dX6_count_58 : decode cX6_count 58 = .ok (.iconst 0, 1) := by decide +kernel
theorem dX6_count_59 : decode cX6_count 59 = .ok (.aload_n 0, 1) := by decide +kernel
theorem dX6_count_60 : decode cX6_count 60 = .ok (.getfield 38, 3) := by decide +kernel
theorem dX6_count_63 : decode cX6_count 63 = .ok (.iconst 1, 1) := by decide +kernel
theorem dX6_count_64 : decode cX6_count 64 = .ok (.baload, 1) := by decide +kernel
theorem dX6_count_65 : decode cX6_count 65 = .ok (.ifCond .eq 7, 3) := by decide +kernel
theorem dX6_count_68 : decode cX6_count 68 = .ok (.iconst 1, 1) := by decide +kernel
theorem dX6_count_69 : decode cX6_count 69 = .ok (.goto 4, 3) := by decide +kernel
theorem dX6_count_72 : decode cX6_count 72 = .ok (.iconst 0, 1) := by decide +kernel
theorem dX6_count_73 : decode cX6_count 73 = .ok (.iadd, 1) := by decide +kernel
theorem dX6_count_74 : decode cX6_count 74 = .ok (.ireturn, 1) := by decide +kernel
theorem dX6_count_75 : decode cX6_count 75 = .ok (.aload_n 0, 1) := by decide +kernel
theorem dX6_count_76 : decode cX6_count 76 = .ok (.getfield 57, 3) := by decide +kernel
theorem dX6_count_79 : decode cX6_count 79 = .ok (.ireturn, 1) := by decide +kernel
theorem dX6_count_80 : decode cX6_count 80 = .ok (.aload_n 0, 1) := by decide +kernel
theorem dX6_count_81 : decode cX6_count 81 = .ok (.getfield 42, 3) := by decide +kernel
theorem dX6_count_84 : decode cX6_count 84 = .ok (.iconst 0, 1) := by decide +kernel
theorem dX6_count_85 : decode cX6_count 85 = .ok (.iaload, 1) := by decide +kernel
theorem dX6_count_86 : decode cX6_count 86 = .ok (.bipush (-4), 2) := by decide +kernel
theorem dX6_count_88 : decode cX6_count 88 = .ok (.if_icmp .ne 8, 3) := by decide +kernel
theorem dX6_count_91 : decode cX6_count 91 = .ok (.bipush (-4), 2) := by decide +kernel
theorem dX6_count_93 : decode cX6_count 93 = .ok (.goto 9, 3) := by decide +kernel
theorem dX6_count_96 : decode cX6_count 96 = .ok (.aload_n 0, 1) := by decide +kernel
theorem dX6_count_97 : decode cX6_count 97 = .ok (.getfield 45, 3) := by decide +kernel
theorem dX6_count_100 : decode cX6_count 100 = .ok (.iconst 0, 1) := by decide +kernel
theorem dX6_count_101 : decode cX6_count 101 = .ok (.iaload, 1) := by decide +kernel
theorem dX6_count_102 : decode cX6_count 102 = .ok (.ireturn, 1) := by decide +kernel
theorem dX6_count_103 : decode cX6_count 103 = .ok (.aload_n 0, 1) := by decide +kernel
theorem dX6_count_104 : decode cX6_count 104 = .ok (.invokevirtual 211, 3) := by decide +kernel
theorem dX6_count_107 : decode cX6_count 107 = .ok (.invokestatic 269, 3) := by decide +kernel
theorem dX6_count_110 : decode cX6_count 110 = .ok (.ireturn, 1) := by decide +kernel
theorem dX6_count_111 : decode cX6_count 111 = .ok (.aload_n 0, 1) := by decide +kernel
theorem dX6_count_112 : decode cX6_count 112 = .ok (.getfield 7, 3) := by decide +kernel
theorem dX6_count_115 : decode cX6_count 115 = .ok (.bipush 22, 2) := by decide +kernel
theorem dX6_count_117 : decode cX6_count 117 = .ok (.iaload, 1) := by decide +kernel
theorem dX6_count_118 : decode cX6_count 118 = .ok (.invokestatic 269, 3) := by decide +kernel
theorem dX6_count_121 : decode cX6_count 121 = .ok (.ireturn, 1) := by decide +kernel
theorem dX6_count_122 : decode cX6_count 122 = .ok (.iconst (-1), 1) := by decide +kernel
theorem dX6_count_123 : decode cX6_count 123 = .ok (.ireturn, 1) := by decide +kernel
end
section
theorem dL_law_0 : decode cL_law 0 = .ok (.new 7, 3) := by decide +kernel
theorem dL_law_3 : decode cL_law 3 = .ok (.dup, 1) := by decide +kernel
theorem dL_law_4 : decode cL_law 4 = .ok (.invokespecial 9, 3) := by decide +kernel
theorem dL_law_7 : decode cL_law 7 = .ok (.astore_n 1, 1) := by decide +kernel
theorem dL_law_8 : decode cL_law 8 = .ok (.new 10, 3) := by decide +kernel
theorem dL_law_11 : decode cL_law 11 = .ok (.dup, 1) := by decide +kernel
theorem dL_law_12 : decode cL_law 12 = .ok (.invokespecial 12, 3) := by decide +kernel
theorem dL_law_15 : decode cL_law 15 = .ok (.astore_n 2, 1) := by decide +kernel
theorem dL_law_16 : decode cL_law 16 = .ok (.iconst 0, 1) := by decide +kernel
theorem dL_law_17 : decode cL_law 17 = .ok (.istore_n 3, 1) := by decide +kernel
theorem dL_law_18 : decode cL_law 18 = .ok (.iload_n 3, 1) := by decide +kernel
theorem dL_law_19 : decode cL_law 19 = .ok (.aload_n 0, 1) := by decide +kernel
theorem dL_law_20 : decode cL_law 20 = .ok (.arraylength, 1) := by decide +kernel
theorem dL_law_21 : decode cL_law 21 = .ok (.iconst 5, 1) := by decide +kernel
theorem dL_law_22 : decode cL_law 22 = .ok (.isub, 1) := by decide +kernel
theorem dL_law_23 : decode cL_law 23 = .ok (.if_icmp .gt 1423, 3) := by decide +kernel
theorem dL_law_26 : decode cL_law 26 = .ok (.aload_n 0, 1) := by decide +kernel
theorem dL_law_27 : decode cL_law 27 = .ok (.iload_n 3, 1) := by decide +kernel
theorem dL_law_28 : decode cL_law 28 = .ok (.iaload, 1) := by decide +kernel
theorem dL_law_29 : decode cL_law 29 = .ok (.bipush 63, 2) := by decide +kernel
theorem dL_law_31 : decode cL_law 31 = .ok (.iand, 1) := by decide +kernel
theorem dL_law_32 : decode cL_law 32 = .ok (.tableswitch 1408 0 43 #[192, 215, 238, 251, 264, 287, 320, 353, 376, 419, 452, 475, 498, 521, 544, 567, 600, 633, 666, 689, 712, 755, 778, 791, 825, 859, 892, 926, 970, 993, 1006, 1019, 1052, 1075, 1108, 1131, 1144, 1187, 1210, 1233, 1276, 1319, 1372, 1385], 192) := by decide +kernel
theorem dL_law_224 : decode cL_law 224 = .ok (.aload_n 1, 1) := by decide +kernel
theorem dL_law_225 : decode cL_law 225 = .ok (.aload_n 0, 1) := by decide +kernel
theorem dL_law_226 : decode cL_law 226 = .ok (.iload_n 3, 1) := by decide +kernel
theorem dL_law_227 : decode cL_law 227 = .ok (.iconst 1, 1) := by decide +kernel
theorem dL_law_228 : decode cL_law 228 = .ok (.iadd, 1) := by decide +kernel
theorem dL_law_229 : decode cL_law 229 = .ok (.iaload, 1) := by decide +kernel
theorem dL_law_230 : decode cL_law 230 = .ok (.invokevirtual 13, 3) := by decide +kernel
theorem dL_law_233 : decode cL_law 233 = .ok (.aload_n 2, 1) := by decide +kernel
theorem dL_law_234 : decode cL_law 234 = .ok (.aload_n 0, 1) := by decide +kernel
theorem dL_law_235 : decode cL_law 235 = .ok (.iload_n 3, 1) := by decide +kernel
theorem dL_law_236 : decode cL_law 236 = .ok (.iconst 1, 1) := by decide +kernel
theorem dL_law_237 : decode cL_law 237 = .ok (.iadd, 1) := by decide +kernel
theorem dL_law_238 : decode cL_law 238 = .ok (.iaload, 1) := by decide +kernel
theorem dL_law_239 : decode cL_law 239 = .ok (.invokevirtual 17, 3) := by decide +kernel
theorem dL_law_242 : decode cL_law 242 = .ok (.if_icmp .eq 1198, 3) := by decide +kernel
theorem dL_law_245 : decode cL_law 245 = .ok (.iconst 0, 1) := by decide +kernel
theorem dL_law_246 : decode cL_law 246 = .ok (.ireturn, 1) := by decide +kernel
theorem dL_law_247 : decode cL_law 247 = .ok (.aload_n 1, 1) := by decide +kernel
theorem dL_law_248 : decode cL_law 248 = .ok (.aload_n 0, 1) := by decide +kernel
theorem dL_law_249 : decode cL_law 249 = .ok (.iload_n 3, 1) := by decide +kernel
theorem dL_law_250 : decode cL_law 250 = .ok (.iconst 1, 1) := by decide +kernel
theorem dL_law_251 : decode cL_law 251 = .ok (.iadd, 1) := by decide +kernel
theorem dL_law_252 : decode cL_law 252 = .ok (.iaload, 1) := by decide +kernel
theorem dL_law_253 : decode cL_law 253 = .ok (.invokevirtual 18, 3) := by decide +kernel
theorem dL_law_256 : decode cL_law 256 = .ok (.aload_n 2, 1) := by decide +kernel
theorem dL_law_257 : decode cL_law 257 = .ok (.aload_n 0, 1) := by decide +kernel
theorem dL_law_258 : decode cL_law 258 = .ok (.iload_n 3, 1) := by decide +kernel
theorem dL_law_259 : decode cL_law 259 = .ok (.iconst 1, 1) := by decide +kernel
theorem dL_law_260 : decode cL_law 260 = .ok (.iadd, 1) := by decide +kernel
theorem dL_law_261 : decode cL_law 261 = .ok (.iaload, 1) := by decide +kernel
theorem dL_law_262 : decode cL_law 262 = .ok (.invokevirtual 21, 3) := by decide +kernel
theorem dL_law_265 : decode cL_law 265 = .ok (.if_icmp .eq 1175, 3) := by decide +kernel
theorem dL_law_268 : decode cL_law 268 = .ok (.iconst 0, 1) := by decide +kernel
theorem dL_law_269 : decode cL_law 269 = .ok (.ireturn, 1) := by decide +kernel
theorem dL_law_270 : decode cL_law 270 = .ok (.aload_n 1, 1) := by decide +kernel
theorem dL_law_271 : decode cL_law 271 = .ok (.invokevirtual 22, 3) := by decide +kernel
theorem dL_law_274 : decode cL_law 274 = .ok (.aload_n 2, 1) := by decide +kernel
theorem dL_law_275 : decode cL_law 275 = .ok (.invokevirtual 26, 3) := by decide +kernel
theorem dL_law_278 : decode cL_law 278 = .ok (.if_icmp .eq 1162, 3) := by decide +kernel
theorem dL_law_281 : decode cL_law 281 = .ok (.iconst 0, 1) := by decide +kernel
theorem dL_law_282 : decode cL_law 282 = .ok (.ireturn, 1) := by decide +kernel
theorem dL_law_283 : decode cL_law 283 = .ok (.aload_n 1, 1) := by decide +kernel
theorem dL_law_284 : decode cL_law 284 = .ok (.invokevirtual 27, 3) := by decide +kernel
theorem dL_law_287 : decode cL_law 287 = .ok (.aload_n 2, 1) := by decide +kernel
theorem dL_law_288 : decode cL_law 288 = .ok (.invokevirtual 30, 3) := by decide +kernel
theorem dL_law_291 : decode cL_law 291 = .ok (.if_icmp .eq 1149, 3) := by decide +kernel
theorem dL_law_294 : decode cL_law 294 = .ok (.iconst 0, 1) := by decide +kernel
theorem dL_law_295 : decode cL_law 295 = .ok (.ireturn, 1) := by decide +kernel
theorem dL_law_296 : decode cL_law 296 = .ok (.aload_n 1, 1) := by decide +kernel
theorem dL_law_297 : decode cL_law 297 = .ok (.aload_n 0, 1) := by decide +kernel
theorem dL_law_298 : decode cL_law 298 = .ok (.iload_n 3, 1) := by decide +kernel
theorem dL_law_299 : decode cL_law 299 = .ok (.iconst 1, 1) := by decide +kernel
theorem dL_law_300 : decode cL_law 300 = .ok (.iadd, 1) := by decide +kernel
theorem dL_law_301 : decode cL_law 301 = .ok (.iaload, 1) := by decide +kernel
theorem dL_law_302 : decode cL_law 302 = .ok (.invokevirtual 31, 3) := by decide +kernel
theorem dL_law_305 : decode cL_law 305 = .ok (.aload_n 2, 1) := by decide +kernel
theorem dL_law_306 : decode cL_law 306 = .ok (.aload_n 0, 1) := by decide +kernel
theorem dL_law_307 : decode cL_law 307 = .ok (.iload_n 3, 1) := by decide +kernel
theorem dL_law_308 : decode cL_law 308 = .ok (.iconst 1, 1) := by decide +kernel
theorem dL_law_309 : decode cL_law 309 = .ok (.iadd, 1) := by decide +kernel
theorem dL_law_310 : decode cL_law 310 = .ok (.iaload, 1) := by decide +kernel
theorem dL_law_311 : decode cL_law 311 = .ok (.invokevirtual 34, 3) := by decide +kernel
theorem dL_law_314 : decode cL_law 314 = .ok (.if_icmp .eq 1126, 3) := by decide +kernel
theorem dL_law_317 : decode cL_law 317 = .ok (.iconst 0, 1) := by decide +kernel
theorem dL_law_318 : decode cL_law 318 = .ok (.ireturn, 1) := by decide +kernel
theorem dL_law_319 : decode cL_law 319 = .ok (.aload_n 1, 1) := by decide +kernel
theorem dL_law_320 : decode cL_law 320 = .ok (.aload_n 0, 1) := by decide +kernel
theorem dL_law_321 : decode cL_law 321 = .ok (.iload_n 3, 1) := by decide +kernel
theorem dL_law_322 : decode cL_law 322 = .ok (.iconst 1, 1) := by decide +kernel
theorem dL_law_323 : decode cL_law 323 = .ok (.iadd, 1) := by decide +kernel
theorem dL_law_324 : decode cL_law 324 = .ok (.iaload, 1) := by decide +kernel
theorem dL_law_325 : decode cL_law 325 = .ok (.aload_n 0, 1) := by decide +kernel
theorem dL_law_326 : decode cL_law 326 = .ok (.iload_n 3, 1) := by decide +kernel
theorem dL_law_327 : decode cL_law 327 = .ok (.iconst 2, 1) := by decide +kernel
theorem dL_law_328 : decode cL_law 328 = .ok (.iadd, 1) := by decide +kernel
theorem dL_law_329 : decode cL_law 329 = .ok (.iaload, 1) := by decide +kernel
theorem dL_law_330 : decode cL_law 330 = .ok (.invokevirtual 35, 3) := by decide +kernel
theorem dL_law_333 : decode cL_law 333 = .ok (.aload_n 2, 1) := by decide +kernel
theorem dL_law_334 : decode cL_law 334 = .ok (.aload_n 0, 1) := by decide +kernel
theorem dL_law_335 : decode cL_law 335 = .ok (.iload_n 3, 1) := by decide +kernel
theorem dL_law_336 : decode cL_law 336 = .ok (.iconst 1, 1) := by decide +kernel
theorem dL_law_337 : decode cL_law 337 = .ok (.iadd, 1) := by decide +kernel
theorem dL_law_338 : decode cL_law 338 = .ok (.iaload, 1) := by decide +kernel
theorem dL_law_339 : decode cL_law 339 = .ok (.aload_n 0, 1) := by decide +kernel
theorem dL_law_340 : decode cL_law 340 = .ok (.iload_n 3, 1) := by decide +kernel
theorem dL_law_341 : decode cL_law 341 = .ok (.iconst 2, 1) := by decide +kernel
theorem dL_law_342 : decode cL_law 342 = .ok (.iadd, 1) := by decide +kernel
theorem dL_law_343 : decode cL_law 343 = .ok (.iaload, 1) := by decide +kernel
theorem dL_law_344 : decode cL_law 344 = .ok (.invokevirtual 39, 3) := by decide +kernel
theorem dL_law_347 : decode cL_law 347 = .ok (.if_icmp .eq 1093, 3) := by decide +kernel
theorem dL_law_350 : decode cL_law 350 = .ok (.iconst 0, 1) := by decide +kernel
theorem dL_law_351 : decode cL_law 351 = .ok (.ireturn, 1) := by decide +kernel
theorem dL_law_352 : decode cL_law 352 = .ok (.aload_n 1, 1) := by decide +kernel
theorem dL_law_353 : decode cL_law 353 = .ok (.aload_n 0, 1) := by decide +kernel
theorem dL_law_354 : decode cL_law 354 = .ok (.iload_n 3, 1) := by decide +kernel
theorem dL_law_355 : decode cL_law 355 = .ok (.iconst 1, 1) := by decide +kernel
theorem dL_law_356 : decode cL_law 356 = .ok (.iadd, 1) := by decide +kernel
theorem dL_law_357 : decode cL_law 357 = .ok (.iaload, 1) := by decide +kernel
theorem dL_law_358 : decode cL_law 358 = .ok (.aload_n 0, 1) := by decide +kernel
theorem dL_law_359 : decode cL_law 359 = .ok (.iload_n 3, 1) := by decide +kernel
theorem dL_law_360 : decode cL_law 360 = .ok (.iconst 2, 1) := by decide +kernel
theorem dL_law_361 : decode cL_law 361 = .ok (.iadd, 1) := by decide +kernel
theorem dL_law_362 : decode cL_law 362 = .ok (.iaload, 1) := by decide +kernel
theorem dL_law_363 : decode cL_law 363 = .ok (.invokevirtual 40, 3) := by decide +kernel
theorem dL_law_366 : decode cL_law 366 = .ok (.aload_n 2, 1) := by decide +kernel
theorem dL_law_367 : decode cL_law 367 = .ok (.aload_n 0, 1) := by decide +kernel
theorem dL_law_368 : decode cL_law 368 = .ok (.iload_n 3, 1) := by decide +kernel
theorem dL_law_369 : decode cL_law 369 = .ok (.iconst 1, 1) := by decide +kernel
theorem dL_law_370 : decode cL_law 370 = .ok (.iadd, 1) := by decide +kernel
theorem dL_law_371 : decode cL_law 371 = .ok (.iaload, 1) := by decide +kernel
theorem dL_law_372 : decode cL_law 372 = .ok (.aload_n 0, 1) := by decide +kernel
theorem dL_law_373 : decode cL_law 373 = .ok (.iload_n 3, 1) := by decide +kernel
theorem dL_law_374 : decode cL_law 374 = .ok (.iconst 2, 1) := by decide +kernel
theorem dL_law_375 : decode cL_law 375 = .ok (.iadd, 1) := by decide +kernel
theorem dL_law_376 : decode cL_law 376 = .ok (.iaload, 1) := by decide +kernel
theorem dL_law_377 : decode cL_law 377 = .ok (.invokevirtual 43, 3) := by decide +kernel
theorem dL_law_380 : decode cL_law 380 = .ok (.if_icmp .eq 1060, 3) := by decide +kernel
theorem dL_law_383 : decode cL_law 383 = .ok (.iconst 0, 1) := by decide +kernel
theorem dL_law_384 : decode cL_law 384 = .ok (.ireturn, 1) := by decide +kernel
theorem dL_law_385 : decode cL_law 385 = .ok (.aload_n 1, 1) := by decide +kernel
theorem dL_law_386 : decode cL_law 386 = .ok (.aload_n 0, 1) := by decide +kernel
theorem dL_law_387 : decode cL_law 387 = .ok (.iload_n 3, 1) := by decide +kernel
theorem dL_law_388 : decode cL_law 388 = .ok (.iconst 1, 1) := by decide +kernel
theorem dL_law_389 : decode cL_law 389 = .ok (.iadd, 1) := by decide +kernel
theorem dL_law_390 : decode cL_law 390 = .ok (.iaload, 1) := by decide +kernel
theorem dL_law_391 : decode cL_law 391 = .ok (.invokevirtual 44, 3) := by decide +kernel
theorem dL_law_394 : decode cL_law 394 = .ok (.aload_n 2, 1) := by decide +kernel
theorem dL_law_395 : decode cL_law 395 = .ok (.aload_n 0, 1) := by decide +kernel
theorem dL_law_396 : decode cL_law 396 = .ok (.iload_n 3, 1) := by decide +kernel
theorem dL_law_397 : decode cL_law 397 = .ok (.iconst 1, 1) := by decide +kernel
theorem dL_law_398 : decode cL_law 398 = .ok (.iadd, 1) := by decide +kernel
theorem dL_law_399 : decode cL_law 399 = .ok (.iaload, 1) := by decide +kernel
theorem dL_law_400 : decode cL_law 400 = .ok (.invokevirtual 47, 3) := by decide +kernel
theorem dL_law_403 : decode cL_law 403 = .ok (.if_icmp .eq 1037, 3) := by decide +kernel
theorem dL_law_406 : decode cL_law 406 = .ok (.iconst 0, 1) := by decide +kernel
theorem dL_law_407 : decode cL_law 407 = .ok (.ireturn, 1) := by decide +kernel
theorem dL_law_408 : decode cL_law 408 = .ok (.aload_n 1, 1) := by decide +kernel
theorem dL_law_409 : decode cL_law 409 = .ok (.aload_n 0, 1) := by decide +kernel
theorem dL_law_410 : decode cL_law 410 = .ok (.iload_n 3, 1) := by decide +kernel
theorem dL_law_411 : decode cL_law 411 = .ok (.iconst 1, 1) := by decide +kernel
theorem dL_law_412 : decode cL_law 412 = .ok (.iadd, 1) := by decide +kernel
theorem dL_law_413 : decode cL_law 413 = .ok (.iaload, 1) := by decide +kernel
theorem dL_law_414 : decode cL_law 414 = .ok (.aload_n 0, 1) := by decide +kernel
theorem dL_law_415 : decode cL_law 415 = .ok (.iload_n 3, 1) := by decide +kernel
theorem dL_law_416 : decode cL_law 416 = .ok (.iconst 2, 1) := by decide +kernel
theorem dL_law_417 : decode cL_law 417 = .ok (.iadd, 1) := by decide +kernel
theorem dL_law_418 : decode cL_law 418 = .ok (.iaload, 1) := by decide +kernel
theorem dL_law_419 : decode cL_law 419 = .ok (.aload_n 0, 1) := by decide +kernel
theorem dL_law_420 : decode cL_law 420 = .ok (.iload_n 3, 1) := by decide +kernel
theorem dL_law_421 : decode cL_law 421 = .ok (.iconst 3, 1) := by decide +kernel
theorem dL_law_422 : decode cL_law 422 = .ok (.iadd, 1) := by decide +kernel
theorem dL_law_423 : decode cL_law 423 = .ok (.iaload, 1) := by decide +kernel
theorem dL_law_424 : decode cL_law 424 = .ok (.invokevirtual 48, 3) := by decide +kernel
theorem dL_law_427 : decode cL_law 427 = .ok (.aload_n 2, 1) := by decide +kernel
theorem dL_law_428 : decode cL_law 428 = .ok (.aload_n 0, 1) := by decide +kernel
theorem dL_law_429 : decode cL_law 429 = .ok (.iload_n 3, 1) := by decide +kernel
theorem dL_law_430 : decode cL_law 430 = .ok (.iconst 1, 1) := by decide +kernel
theorem dL_law_431 : decode cL_law 431 = .ok (.iadd, 1) := by decide +kernel
theorem dL_law_432 : decode cL_law 432 = .ok (.iaload, 1) := by decide +kernel
theorem dL_law_433 : decode cL_law 433 = .ok (.aload_n 0, 1) := by decide +kernel
theorem dL_law_434 : decode cL_law 434 = .ok (.iload_n 3, 1) := by decide +kernel
theorem dL_law_435 : decode cL_law 435 = .ok (.iconst 2, 1) := by decide +kernel
theorem dL_law_436 : decode cL_law 436 = .ok (.iadd, 1) := by decide +kernel
theorem dL_law_437 : decode cL_law 437 = .ok (.iaload, 1) := by decide +kernel
theorem dL_law_438 : decode cL_law 438 = .ok (.aload_n 0, 1) := by decide +kernel
theorem dL_law_439 : decode cL_law 439 = .ok (.iload_n 3, 1) := by decide +kernel
theorem dL_law_440 : decode cL_law 440 = .ok (.iconst 3, 1) := by decide +kernel
theorem dL_law_441 : decode cL_law 441 = .ok (.iadd, 1) := by decide +kernel
theorem dL_law_442 : decode cL_law 442 = .ok (.iaload, 1) := by decide +kernel
theorem dL_law_443 : decode cL_law 443 = .ok (.invokevirtual 52, 3) := by decide +kernel
theorem dL_law_446 : decode cL_law 446 = .ok (.if_icmp .eq 994, 3) := by decide +kernel
theorem dL_law_449 : decode cL_law 449 = .ok (.iconst 0, 1) := by decide +kernel
theorem dL_law_450 : decode cL_law 450 = .ok (.ireturn, 1) := by decide +kernel
theorem dL_law_451 : decode cL_law 451 = .ok (.aload_n 1, 1) := by decide +kernel
theorem dL_law_452 : decode cL_law 452 = .ok (.aload_n 0, 1) := by decide +kernel
theorem dL_law_453 : decode cL_law 453 = .ok (.iload_n 3, 1) := by decide +kernel
theorem dL_law_454 : decode cL_law 454 = .ok (.iconst 1, 1) := by decide +kernel
theorem dL_law_455 : decode cL_law 455 = .ok (.iadd, 1) := by decide +kernel
theorem dL_law_456 : decode cL_law 456 = .ok (.iaload, 1) := by decide +kernel
theorem dL_law_457 : decode cL_law 457 = .ok (.aload_n 0, 1) := by decide +kernel
theorem dL_law_458 : decode cL_law 458 = .ok (.iload_n 3, 1) := by decide +kernel
theorem dL_law_459 : decode cL_law 459 = .ok (.iconst 2, 1) := by decide +kernel
theorem dL_law_460 : decode cL_law 460 = .ok (.iadd, 1) := by decide +kernel
theorem dL_law_461 : decode cL_law 461 = .ok (.iaload, 1) := by decide +kernel
theorem dL_law_462 : decode cL_law 462 = .ok (.invokevirtual 53, 3) := by decide +kernel
theorem dL_law_465 : decode cL_law 465 = .ok (.aload_n 2, 1) := by decide +kernel
theorem dL_law_466 : decode cL_law 466 = .ok (.aload_n 0, 1) := by decide +kernel
theorem dL_law_467 : decode cL_law 467 = .ok (.iload_n 3, 1) := by decide +kernel
theorem dL_law_468 : decode cL_law 468 = .ok (.iconst 1, 1) := by decide +kernel
theorem dL_law_469 : decode cL_law 469 = .ok (.iadd, 1) := by decide +kernel
theorem dL_law_470 : decode cL_law 470 = .ok (.iaload, 1) := by decide +kernel
theorem dL_law_471 : decode cL_law 471 = .ok (.aload_n 0, 1) := by decide +kernel
theorem dL_law_472 : decode cL_law 472 = .ok (.iload_n 3, 1) := by decide +kernel
theorem dL_law_473 : decode cL_law 473 = .ok (.iconst 2, 1) := by decide +kernel
theorem dL_law_474 : decode cL_law 474 = .ok (.iadd, 1) := by decide +kernel
theorem dL_law_475 : decode cL_law 475 = .ok (.iaload, 1) := by decide +kernel
theorem dL_law_476 : decode cL_law 476 = .ok (.invokevirtual 56, 3) := by decide +kernel
theorem dL_law_479 : decode cL_law 479 = .ok (.if_icmp .eq 961, 3) := by decide +kernel
theorem dL_law_482 : decode cL_law 482 = .ok (.iconst 0, 1) := by decide +kernel
theorem dL_law_483 : decode cL_law 483 = .ok (.ireturn, 1) := by decide +kernel
theorem dL_law_484 : decode cL_law 484 = .ok (.aload_n 1, 1) := by decide +kernel
theorem dL_law_485 : decode cL_law 485 = .ok (.aload_n 0, 1) := by decide +kernel
theorem dL_law_486 : decode cL_law 486 = .ok (.iload_n 3, 1) := by decide +kernel
theorem dL_law_487 : decode cL_law 487 = .ok (.iconst 1, 1) := by decide +kernel
theorem dL_law_488 : decode cL_law 488 = .ok (.iadd, 1) := by decide +kernel
theorem dL_law_489 : decode cL_law 489 = .ok (.iaload, 1) := by decide +kernel
theorem dL_law_490 : decode cL_law 490 = .ok (.invokevirtual 57, 3) := by decide +kernel
theorem dL_law_493 : decode cL_law 493 = .ok (.aload_n 2, 1) := by decide +kernel
theorem dL_law_494 : decode cL_law 494 = .ok (.aload_n 0, 1) := by decide +kernel
theorem dL_law_495 : decode cL_law 495 = .ok (.iload_n 3, 1) := by decide +kernel
theorem dL_law_496 : decode cL_law 496 = .ok (.iconst 1, 1) := by decide +kernel
theorem dL_law_497 : decode cL_law 497 = .ok (.iadd, 1) := by decide +kernel
theorem dL_law_498 : decode cL_law 498 = .ok (.iaload, 1) := by decide +kernel
theorem dL_law_499 : decode cL_law 499 = .ok (.invokevirtual 60, 3) := by decide +kernel
theorem dL_law_502 : decode cL_law 502 = .ok (.if_icmp .eq 938, 3) := by decide +kernel
theorem dL_law_505 : decode cL_law 505 = .ok (.iconst 0, 1) := by decide +kernel
theorem dL_law_506 : decode cL_law 506 = .ok (.ireturn, 1) := by decide +kernel
theorem dL_law_507 : decode cL_law 507 = .ok (.aload_n 1, 1) := by decide +kernel
theorem dL_law_508 : decode cL_law 508 = .ok (.aload_n 0, 1) := by decide +kernel
theorem dL_law_509 : decode cL_law 509 = .ok (.iload_n 3, 1) := by decide +kernel
theorem dL_law_510 : decode cL_law 510 = .ok (.iconst 1, 1) := by decide +kernel
theorem dL_law_511 : decode cL_law 511 = .ok (.iadd, 1) := by decide +kernel
theorem dL_law_512 : decode cL_law 512 = .ok (.iaload, 1) := by decide +kernel
theorem dL_law_513 : decode cL_law 513 = .ok (.invokevirtual 61, 3) := by decide +kernel
theorem dL_law_516 : decode cL_law 516 = .ok (.aload_n 2, 1) := by decide +kernel
theorem dL_law_517 : decode cL_law 517 = .ok (.aload_n 0, 1) := by decide +kernel
theorem dL_law_518 : decode cL_law 518 = .ok (.iload_n 3, 1) := by decide +kernel
theorem dL_law_519 : decode cL_law 519 = .ok (.iconst 1, 1) := by decide +kernel
theorem dL_law_520 : decode cL_law 520 = .ok (.iadd, 1) := by decide +kernel
theorem dL_law_521 : decode cL_law 521 = .ok (.iaload, 1) := by decide +kernel
theorem dL_law_522 : decode cL_law 522 = .ok (.invokevirtual 64, 3) := by decide +kernel
theorem dL_law_525 : decode cL_law 525 = .ok (.if_icmp .eq 915, 3) := by decide +kernel
theorem dL_law_528 : decode cL_law 528 = .ok (.iconst 0, 1) := by decide +kernel
theorem dL_law_529 : decode cL_law 529 = .ok (.ireturn, 1) := by decide +kernel
theorem dL_law_530 : decode cL_law 530 = .ok (.aload_n 1, 1) := by decide +kernel
theorem dL_law_531 : decode cL_law 531 = .ok (.aload_n 0, 1) := by decide +kernel
theorem dL_law_532 : decode cL_law 532 = .ok (.iload_n 3, 1) := by decide +kernel
theorem dL_law_533 : decode cL_law 533 = .ok (.iconst 1, 1) := by decide +kernel
theorem dL_law_534 : decode cL_law 534 = .ok (.iadd, 1) := by decide +kernel
theorem dL_law_535 : decode cL_law 535 = .ok (.iaload, 1) := by decide +kernel
theorem dL_law_536 : decode cL_law 536 = .ok (.invokevirtual 65, 3) := by decide +kernel
theorem dL_law_539 : decode cL_law 539 = .ok (.aload_n 2, 1) := by decide +kernel
theorem dL_law_540 : decode cL_law 540 = .ok (.aload_n 0, 1) := by decide +kernel
theorem dL_law_541 : decode cL_law 541 = .ok (.iload_n 3, 1) := by decide +kernel
theorem dL_law_542 : decode cL_law 542 = .ok (.iconst 1, 1) := by decide +kernel
theorem dL_law_543 : decode cL_law 543 = .ok (.iadd, 1) := by decide +kernel
theorem dL_law_544 : decode cL_law 544 = .ok (.iaload, 1) := by decide +kernel
theorem dL_law_545 : decode cL_law 545 = .ok (.invokevirtual 68, 3) := by decide +kernel
theorem dL_law_548 : decode cL_law 548 = .ok (.if_icmp .eq 892, 3) := by decide +kernel
theorem dL_law_551 : decode cL_law 551 = .ok (.iconst 0, 1) := by decide +kernel
theorem dL_law_552 : decode cL_law 552 = .ok (.ireturn, 1) := by decide +kernel
theorem dL_law_553 : decode cL_law 553 = .ok (.aload_n 1, 1) := by decide +kernel
theorem dL_law_554 : decode cL_law 554 = .ok (.aload_n 0, 1) := by decide +kernel
theorem dL_law_555 : decode cL_law 555 = .ok (.iload_n 3, 1) := by decide +kernel
theorem dL_law_556 : decode cL_law 556 = .ok (.iconst 1, 1) := by decide +kernel
theorem dL_law_557 : decode cL_law 557 = .ok (.iadd, 1) := by decide +kernel
theorem dL_law_558 : decode cL_law 558 = .ok (.iaload, 1) := by decide +kernel
theorem dL_law_559 : decode cL_law 559 = .ok (.invokevirtual 69, 3) := by decide +kernel
theorem dL_law_562 : decode cL_law 562 = .ok (.aload_n 2, 1) := by decide +kernel
theorem dL_law_563 : decode cL_law 563 = .ok (.aload_n 0, 1) := by decide +kernel
theorem dL_law_564 : decode cL_law 564 = .ok (.iload_n 3, 1) := by decide +kernel
theorem dL_law_565 : decode cL_law 565 = .ok (.iconst 1, 1) := by decide +kernel
theorem dL_law_566 : decode cL_law 566 = .ok (.iadd, 1) := by decide +kernel
theorem dL_law_567 : decode cL_law 567 = .ok (.iaload, 1) := by decide +kernel
theorem dL_law_568 : decode cL_law 568 = .ok (.invokevirtual 72, 3) := by decide +kernel
theorem dL_law_571 : decode cL_law 571 = .ok (.if_icmp .eq 869, 3) := by decide +kernel
theorem dL_law_574 : decode cL_law 574 = .ok (.iconst 0, 1) := by decide +kernel
theorem dL_law_575 : decode cL_law 575 = .ok (.ireturn, 1) := by decide +kernel
theorem dL_law_576 : decode cL_law 576 = .ok (.aload_n 1, 1) := by decide +kernel
theorem dL_law_577 : decode cL_law 577 = .ok (.aload_n 0, 1) := by decide +kernel
theorem dL_law_578 : decode cL_law 578 = .ok (.iload_n 3, 1) := by decide +kernel
theorem dL_law_579 : decode cL_law 579 = .ok (.iconst 1, 1) := by decide +kernel
theorem dL_law_580 : decode cL_law 580 = .ok (.iadd, 1) := by decide +kernel
theorem dL_law_581 : decode cL_law 581 = .ok (.iaload, 1) := by decide +kernel
theorem dL_law_582 : decode cL_law 582 = .ok (.invokevirtual 73, 3) := by decide +kernel
theorem dL_law_585 : decode cL_law 585 = .ok (.aload_n 2, 1) := by decide +kernel
theorem dL_law_586 : decode cL_law 586 = .ok (.aload_n 0, 1) := by decide +kernel
theorem dL_law_587 : decode cL_law 587 = .ok (.iload_n 3, 1) := by decide +kernel
theorem dL_law_588 : decode cL_law 588 = .ok (.iconst 1, 1) := by decide +kernel
theorem dL_law_589 : decode cL_law 589 = .ok (.iadd, 1) := by decide +kernel
theorem dL_law_590 : decode cL_law 590 = .ok (.iaload, 1) := by decide +kernel
theorem dL_law_591 : decode cL_law 591 = .ok (.invokevirtual 76, 3) := by decide +kernel
theorem dL_law_594 : decode cL_law 594 = .ok (.if_icmp .eq 846, 3) := by decide +kernel
theorem dL_law_597 : decode cL_law 597 = .ok (.iconst 0, 1) := by decide +kernel
theorem dL_law_598 : decode cL_law 598 = .ok (.ireturn, 1) := by decide +kernel
theorem dL_law_599 : decode cL_law 599 = .ok (.aload_n 1, 1) := by decide +kernel
theorem dL_law_600 : decode cL_law 600 = .ok (.aload_n 0, 1) := by decide +kernel
theorem dL_law_601 : decode cL_law 601 = .ok (.iload_n 3, 1) := by decide +kernel
theorem dL_law_602 : decode cL_law 602 = .ok (.iconst 1, 1) := by decide +kernel
theorem dL_law_603 : decode cL_law 603 = .ok (.iadd, 1) := by decide +kernel
theorem dL_law_604 : decode cL_law 604 = .ok (.iaload, 1) := by decide +kernel
theorem dL_law_605 : decode cL_law 605 = .ok (.aload_n 0, 1) := by decide +kernel
theorem dL_law_606 : decode cL_law 606 = .ok (.iload_n 3, 1) := by decide +kernel
theorem dL_law_607 : decode cL_law 607 = .ok (.iconst 2, 1) := by decide +kernel
theorem dL_law_608 : decode cL_law 608 = .ok (.iadd, 1) := by decide +kernel
theorem dL_law_609 : decode cL_law 609 = .ok (.iaload, 1) := by decide +kernel
theorem dL_law_610 : decode cL_law 610 = .ok (.invokevirtual 77, 3) := by decide +kernel
theorem dL_law_613 : decode cL_law 613 = .ok (.aload_n 2, 1) := by decide +kernel
theorem dL_law_614 : decode cL_law 614 = .ok (.aload_n 0, 1) := by decide +kernel
theorem dL_law_615 : decode cL_law 615 = .ok (.iload_n 3, 1) := by decide +kernel
theorem dL_law_616 : decode cL_law 616 = .ok (.iconst 1, 1) := by decide +kernel
theorem dL_law_617 : decode cL_law 617 = .ok (.iadd, 1) := by decide +kernel
theorem dL_law_618 : decode cL_law 618 = .ok (.iaload, 1) := by decide +kernel
theorem dL_law_619 : decode cL_law 619 = .ok (.aload_n 0, 1) := by decide +kernel
theorem dL_law_620 : decode cL_law 620 = .ok (.iload_n 3, 1) := by decide +kernel
theorem dL_law_621 : decode cL_law 621 = .ok (.iconst 2, 1) := by decide +kernel
theorem dL_law_622 : decode cL_law 622 = .ok (.iadd, 1) := by decide +kernel
theorem dL_law_623 : decode cL_law 623 = .ok (.iaload, 1) := by decide +kernel
theorem dL_law_624 : decode cL_law 624 = .ok (.invokevirtual 80, 3) := by decide +kernel
theorem dL_law_627 : decode cL_law 627 = .ok (.if_icmp .eq 813, 3) := by decide +kernel
theorem dL_law_630 : decode cL_law 630 = .ok (.iconst 0, 1) := by decide +kernel
theorem dL_law_631 : decode cL_law 631 = .ok (.ireturn, 1) := by decide +kernel
theorem dL_law_632 : decode cL_law 632 = .ok (.aload_n 1, 1) := by decide +kernel
theorem dL_law_633 : decode cL_law 633 = .ok (.aload_n 0, 1) := by decide +kernel
theorem dL_law_634 : decode cL_law 634 = .ok (.iload_n 3, 1) := by decide +kernel
theorem dL_law_635 : decode cL_law 635 = .ok (.iconst 1, 1) := by decide +kernel
theorem dL_law_636 : decode cL_law 636 = .ok (.iadd, 1) := by decide +kernel
theorem dL_law_637 : decode cL_law 637 = .ok (.iaload, 1) := by decide +kernel
theorem dL_law_638 : decode cL_law 638 = .ok (.aload_n 0, 1) := by decide +kernel
theorem dL_law_639 : decode cL_law 639 = .ok (.iload_n 3, 1) := by decide +kernel
theorem dL_law_640 : decode cL_law 640 = .ok (.iconst 2, 1) := by decide +kernel
theorem dL_law_641 : decode cL_law 641 = .ok (.iadd, 1) := by decide +kernel
theorem dL_law_642 : decode cL_law 642 = .ok (.iaload, 1) := by decide +kernel
theorem dL_law_643 : decode cL_law 643 = .ok (.invokevirtual 81, 3) := by decide +kernel
theorem dL_law_646 : decode cL_law 646 = .ok (.aload_n 2, 1) := by decide +kernel
theorem dL_law_647 : decode cL_law 647 = .ok (.aload_n 0, 1) := by decide +kernel
theorem dL_law_648 : decode cL_law 648 = .ok (.iload_n 3, 1) := by decide +kernel
theorem dL_law_649 : decode cL_law 649 = .ok (.iconst 1, 1) := by decide +kernel
theorem dL_law_650 : decode cL_law 650 = .ok (.iadd, 1) := by decide +kernel
theorem dL_law_651 : decode cL_law 651 = .ok (.iaload, 1) := by decide +kernel
theorem dL_law_652 : decode cL_law 652 = .ok (.aload_n 0, 1) := by decide +kernel
theorem dL_law_653 : decode cL_law 653 = .ok (.iload_n 3, 1) := by decide +kernel
theorem dL_law_654 : decode cL_law 654 = .ok (.iconst 2, 1) := by decide +kernel
theorem dL_law_655 : decode cL_law 655 = .ok (.iadd, 1) := by decide +kernel
theorem dL_law_656 : decode cL_law 656 = .ok (.iaload, 1) := by decide +kernel
theorem dL_law_657 : decode cL_law 657 = .ok (.invokevirtual 84, 3) := by decide +kernel
theorem dL_law_660 : decode cL_law 660 = .ok (.if_icmp .eq 780, 3) := by decide +kernel
theorem dL_law_663 : decode cL_law 663 = .ok (.iconst 0, 1) := by decide +kernel
theorem dL_law_664 : decode cL_law 664 = .ok (.ireturn, 1) := by decide +kernel
theorem dL_law_665 : decode cL_law 665 = .ok (.aload_n 1, 1) := by decide +kernel
theorem dL_law_666 : decode cL_law 666 = .ok (.aload_n 0, 1) := by decide +kernel
theorem dL_law_667 : decode cL_law 667 = .ok (.iload_n 3, 1) := by decide +kernel
theorem dL_law_668 : decode cL_law 668 = .ok (.iconst 1, 1) := by decide +kernel
theorem dL_law_669 : decode cL_law 669 = .ok (.iadd, 1) := by decide +kernel
theorem dL_law_670 : decode cL_law 670 = .ok (.iaload, 1) := by decide +kernel
theorem dL_law_671 : decode cL_law 671 = .ok (.aload_n 0, 1) := by decide +kernel
theorem dL_law_672 : decode cL_law 672 = .ok (.iload_n 3, 1) := by decide +kernel
theorem dL_law_673 : decode cL_law 673 = .ok (.iconst 2, 1) := by decide +kernel
theorem dL_law_674 : decode cL_law 674 = .ok (.iadd, 1) := by decide +kernel
theorem dL_law_675 : decode cL_law 675 = .ok (.iaload, 1) := by decide +kernel
theorem dL_law_676 : decode cL_law 676 = .ok (.invokevirtual 85, 3) := by decide +kernel
theorem dL_law_679 : decode cL_law 679 = .ok (.aload_n 2, 1) := by decide +kernel
theorem dL_law_680 : decode cL_law 680 = .ok (.aload_n 0, 1) := by decide +kernel
theorem dL_law_681 : decode cL_law 681 = .ok (.iload_n 3, 1) := by decide +kernel
theorem dL_law_682 : decode cL_law 682 = .ok (.iconst 1, 1) := by decide +kernel
theorem dL_law_683 : decode cL_law 683 = .ok (.iadd, 1) := by decide +kernel
theorem dL_law_684 : decode cL_law 684 = .ok (.iaload, 1) := by decide +kernel
theorem dL_law_685 : decode cL_law 685 = .ok (.aload_n 0, 1) := by decide +kernel
theorem dL_law_686 : decode cL_law 686 = .ok (.iload_n 3, 1) := by decide +kernel
theorem dL_law_687 : decode cL_law 687 = .ok (.iconst 2, 1) := by decide +kernel
theorem dL_law_688 : decode cL_law 688 = .ok (.iadd, 1) := by decide +kernel
theorem dL_law_689 : decode cL_law 689 = .ok (.iaload, 1) := by decide +kernel
theorem dL_law_690 : decode cL_law 690 = .ok (.invokevirtual 88, 3) := by decide +kernel
theorem dL_law_693 : decode cL_law 693 = .ok (.if_icmp .eq 747, 3) := by decide +kernel
theorem dL_law_696 : decode cL_law 696 = .ok (.iconst 0, 1) := by decide +kernel
theorem dL_law_697 : decode cL_law 697 = .ok (.ireturn, 1) := by decide +kernel
theorem dL_law_698 : decode cL_law 698 = .ok (.aload_n 1, 1) := by decide +kernel
theorem dL_law_699 : decode cL_law 699 = .ok (.aload_n 0, 1) := by decide +kernel
theorem dL_law_700 : decode cL_law 700 = .ok (.iload_n 3, 1) := by decide +kernel
theorem dL_law_701 : decode cL_law 701 = .ok (.iconst 1, 1) := by decide +kernel
theorem dL_law_702 : decode cL_law 702 = .ok (.iadd, 1) := by decide +kernel
theorem dL_law_703 : decode cL_law 703 = .ok (.iaload, 1) := by decide +kernel
theorem dL_law_704 : decode cL_law 704 = .ok (.invokevirtual 89, 3) := by decide +kernel
theorem dL_law_707 : decode cL_law 707 = .ok (.aload_n 2, 1) := by decide +kernel
theorem dL_law_708 : decode cL_law 708 = .ok (.aload_n 0, 1) := by decide +kernel
theorem dL_law_709 : decode cL_law 709 = .ok (.iload_n 3, 1) := by decide +kernel
theorem dL_law_710 : decode cL_law 710 = .ok (.iconst 1, 1) := by decide +kernel
theorem dL_law_711 : decode cL_law 711 = .ok (.iadd, 1) := by decide +kernel
theorem dL_law_712 : decode cL_law 712 = .ok (.iaload, 1) := by decide +kernel
theorem dL_law_713 : decode cL_law 713 = .ok (.invokevirtual 92, 3) := by decide +kernel
theorem dL_law_716 : decode cL_law 716 = .ok (.if_icmp .eq 724, 3) := by decide +kernel
theorem dL_law_719 : decode cL_law 719 = .ok (.iconst 0, 1) := by decide +kernel
theorem dL_law_720 : decode cL_law 720 = .ok (.ireturn, 1) := by decide +kernel
theorem dL_law_721 : decode cL_law 721 = .ok (.aload_n 1, 1) := by decide +kernel
theorem dL_law_722 : decode cL_law 722 = .ok (.aload_n 0, 1) := by decide +kernel
theorem dL_law_723 : decode cL_law 723 = .ok (.iload_n 3, 1) := by decide +kernel
theorem dL_law_724 : decode cL_law 724 = .ok (.iconst 1, 1) := by decide +kernel
theorem dL_law_725 : decode cL_law 725 = .ok (.iadd, 1) := by decide +kernel
theorem dL_law_726 : decode cL_law 726 = .ok (.iaload, 1) := by decide +kernel
theorem dL_law_727 : decode cL_law 727 = .ok (.invokevirtual 93, 3) := by decide +kernel
theorem dL_law_730 : decode cL_law 730 = .ok (.aload_n 2, 1) := by decide +kernel
theorem dL_law_731 : decode cL_law 731 = .ok (.aload_n 0, 1) := by decide +kernel
theorem dL_law_732 : decode cL_law 732 = .ok (.iload_n 3, 1) := by decide +kernel
theorem dL_law_733 : decode cL_law 733 = .ok (.iconst 1, 1) := by decide +kernel
theorem dL_law_734 : decode cL_law 734 = .ok (.iadd, 1) := by decide +kernel
theorem dL_law_735 : decode cL_law 735 = .ok (.iaload, 1) := by decide +kernel
theorem dL_law_736 : decode cL_law 736 = .ok (.invokevirtual 96, 3) := by decide +kernel
theorem dL_law_739 : decode cL_law 739 = .ok (.if_icmp .eq 701, 3) := by decide +kernel
theorem dL_law_742 : decode cL_law 742 = .ok (.iconst 0, 1) := by decide +kernel
theorem dL_law_743 : decode cL_law 743 = .ok (.ireturn, 1) := by decide +kernel
theorem dL_law_744 : decode cL_law 744 = .ok (.aload_n 1, 1) := by decide +kernel
theorem dL_law_745 : decode cL_law 745 = .ok (.aload_n 0, 1) := by decide +kernel
theorem dL_law_746 : decode cL_law 746 = .ok (.iload_n 3, 1) := by decide +kernel
theorem dL_law_747 : decode cL_law 747 = .ok (.iconst 1, 1) := by decide +kernel
theorem dL_law_748 : decode cL_law 748 = .ok (.iadd, 1) := by decide +kernel
theorem dL_law_749 : decode cL_law 749 = .ok (.iaload, 1) := by decide +kernel
theorem dL_law_750 : decode cL_law 750 = .ok (.aload_n 0, 1) := by decide +kernel
theorem dL_law_751 : decode cL_law 751 = .ok (.iload_n 3, 1) := by decide +kernel
theorem dL_law_752 : decode cL_law 752 = .ok (.iconst 2, 1) := by decide +kernel
theorem dL_law_753 : decode cL_law 753 = .ok (.iadd, 1) := by decide +kernel
theorem dL_law_754 : decode cL_law 754 = .ok (.iaload, 1) := by decide +kernel
theorem dL_law_755 : decode cL_law 755 = .ok (.aload_n 0, 1) := by decide +kernel
theorem dL_law_756 : decode cL_law 756 = .ok (.iload_n 3, 1) := by decide +kernel
theorem dL_law_757 : decode cL_law 757 = .ok (.iconst 3, 1) := by decide +kernel
theorem dL_law_758 : decode cL_law 758 = .ok (.iadd, 1) := by decide +kernel
theorem dL_law_759 : decode cL_law 759 = .ok (.iaload, 1) := by decide +kernel
theorem dL_law_760 : decode cL_law 760 = .ok (.invokevirtual 97, 3) := by decide +kernel
theorem dL_law_763 : decode cL_law 763 = .ok (.aload_n 2, 1) := by decide +kernel
theorem dL_law_764 : decode cL_law 764 = .ok (.aload_n 0, 1) := by decide +kernel
theorem dL_law_765 : decode cL_law 765 = .ok (.iload_n 3, 1) := by decide +kernel
theorem dL_law_766 : decode cL_law 766 = .ok (.iconst 1, 1) := by decide +kernel
theorem dL_law_767 : decode cL_law 767 = .ok (.iadd, 1) := by decide +kernel
theorem dL_law_768 : decode cL_law 768 = .ok (.iaload, 1) := by decide +kernel
theorem dL_law_769 : decode cL_law 769 = .ok (.aload_n 0, 1) := by decide +kernel
theorem dL_law_770 : decode cL_law 770 = .ok (.iload_n 3, 1) := by decide +kernel
theorem dL_law_771 : decode cL_law 771 = .ok (.iconst 2, 1) := by decide +kernel
theorem dL_law_772 : decode cL_law 772 = .ok (.iadd, 1) := by decide +kernel
theorem dL_law_773 : decode cL_law 773 = .ok (.iaload, 1) := by decide +kernel
theorem dL_law_774 : decode cL_law 774 = .ok (.aload_n 0, 1) := by decide +kernel
theorem dL_law_775 : decode cL_law 775 = .ok (.iload_n 3, 1) := by decide +kernel
theorem dL_law_776 : decode cL_law 776 = .ok (.iconst 3, 1) := by decide +kernel
theorem dL_law_777 : decode cL_law 777 = .ok (.iadd, 1) := by decide +kernel
theorem dL_law_778 : decode cL_law 778 = .ok (.iaload, 1) := by decide +kernel
theorem dL_law_779 : decode cL_law 779 = .ok (.invokevirtual 100, 3) := by decide +kernel
theorem dL_law_782 : decode cL_law 782 = .ok (.if_icmp .eq 658, 3) := by decide +kernel
theorem dL_law_785 : decode cL_law 785 = .ok (.iconst 0, 1) := by decide +kernel
theorem dL_law_786 : decode cL_law 786 = .ok (.ireturn, 1) := by decide +kernel
theorem dL_law_787 : decode cL_law 787 = .ok (.aload_n 1, 1) := by decide +kernel
theorem dL_law_788 : decode cL_law 788 = .ok (.aload_n 0, 1) := by decide +kernel
theorem dL_law_789 : decode cL_law 789 = .ok (.iload_n 3, 1) := by decide +kernel
theorem dL_law_790 : decode cL_law 790 = .ok (.iconst 1, 1) := by decide +kernel
theorem dL_law_791 : decode cL_law 791 = .ok (.iadd, 1) := by decide +kernel
theorem dL_law_792 : decode cL_law 792 = .ok (.iaload, 1) := by decide +kernel
theorem dL_law_793 : decode cL_law 793 = .ok (.invokevirtual 101, 3) := by decide +kernel
theorem dL_law_796 : decode cL_law 796 = .ok (.aload_n 2, 1) := by decide +kernel
theorem dL_law_797 : decode cL_law 797 = .ok (.aload_n 0, 1) := by decide +kernel
theorem dL_law_798 : decode cL_law 798 = .ok (.iload_n 3, 1) := by decide +kernel
theorem dL_law_799 : decode cL_law 799 = .ok (.iconst 1, 1) := by decide +kernel
theorem dL_law_800 : decode cL_law 800 = .ok (.iadd, 1) := by decide +kernel
theorem dL_law_801 : decode cL_law 801 = .ok (.iaload, 1) := by decide +kernel
theorem dL_law_802 : decode cL_law 802 = .ok (.invokevirtual 104, 3) := by decide +kernel
theorem dL_law_805 : decode cL_law 805 = .ok (.if_icmp .eq 635, 3) := by decide +kernel
theorem dL_law_808 : decode cL_law 808 = .ok (.iconst 0, 1) := by decide +kernel
theorem dL_law_809 : decode cL_law 809 = .ok (.ireturn, 1) := by decide +kernel
theorem dL_law_810 : decode cL_law 810 = .ok (.aload_n 1, 1) := by decide +kernel
theorem dL_law_811 : decode cL_law 811 = .ok (.invokevirtual 105, 3) := by decide +kernel
theorem dL_law_814 : decode cL_law 814 = .ok (.aload_n 2, 1) := by decide +kernel
theorem dL_law_815 : decode cL_law 815 = .ok (.invokevirtual 108, 3) := by decide +kernel
theorem dL_law_818 : decode cL_law 818 = .ok (.if_icmp .eq 622, 3) := by decide +kernel
theorem dL_law_821 : decode cL_law 821 = .ok (.iconst 0, 1) := by decide +kernel
theorem dL_law_822 : decode cL_law 822 = .ok (.ireturn, 1) := by decide +kernel
theorem dL_law_823 : decode cL_law 823 = .ok (.aload_n 1, 1) := by decide +kernel
theorem dL_law_824 : decode cL_law 824 = .ok (.aload_n 0, 1) := by decide +kernel
theorem dL_law_825 : decode cL_law 825 = .ok (.iload_n 3, 1) := by decide +kernel
theorem dL_law_826 : decode cL_law 826 = .ok (.iconst 1, 1) := by decide +kernel
theorem dL_law_827 : decode cL_law 827 = .ok (.iadd, 1) := by decide +kernel
theorem dL_law_828 : decode cL_law 828 = .ok (.iaload, 1) := by decide +kernel
theorem dL_law_829 : decode cL_law 829 = .ok (.aload_n 0, 1) := by decide +kernel
theorem dL_law_830 : decode cL_law 830 = .ok (.iload_n 3, 1) := by decide +kernel
theorem dL_law_831 : decode cL_law 831 = .ok (.iconst 2, 1) := by decide +kernel
theorem dL_law_832 : decode cL_law 832 = .ok (.iadd, 1) := by decide +kernel
theorem dL_law_833 : decode cL_law 833 = .ok (.iaload, 1) := by decide +kernel
theorem dL_law_834 : decode cL_law 834 = .ok (.invokevirtual 109, 3) := by decide +kernel
theorem dL_law_837 : decode cL_law 837 = .ok (.aload_n 2, 1) := by decide +kernel
theorem dL_law_838 : decode cL_law 838 = .ok (.aload_n 0, 1) := by decide +kernel
theorem dL_law_839 : decode cL_law 839 = .ok (.iload_n 3, 1) := by decide +kernel
theorem dL_law_840 : decode cL_law 840 = .ok (.iconst 1, 1) := by decide +kernel
theorem dL_law_841 : decode cL_law 841 = .ok (.iadd, 1) := by decide +kernel
theorem dL_law_842 : decode cL_law 842 = .ok (.iaload, 1) := by decide +kernel
theorem dL_law_843 : decode cL_law 843 = .ok (.aload_n 0, 1) := by decide +kernel
theorem dL_law_844 : decode cL_law 844 = .ok (.iload_n 3, 1) := by decide +kernel
theorem dL_law_845 : decode cL_law 845 = .ok (.iconst 2, 1) := by decide +kernel
theorem dL_law_846 : decode cL_law 846 = .ok (.iadd, 1) := by decide +kernel
theorem dL_law_847 : decode cL_law 847 = .ok (.iaload, 1) := by decide +kernel
theorem dL_law_848 : decode cL_law 848 = .ok (.invokevirtual 113, 3) := by decide +kernel
theorem dL_law_851 : decode cL_law 851 = .ok (.lcmp, 1) := by decide +kernel
theorem dL_law_852 : decode cL_law 852 = .ok (.ifCond .eq 588, 3) := by decide +kernel
theorem dL_law_855 : decode cL_law 855 = .ok (.iconst 0, 1) := by decide +kernel
theorem dL_law_856 : decode cL_law 856 = .ok (.ireturn, 1) := by decide +kernel
theorem dL_law_857 : decode cL_law 857 = .ok (.aload_n 1, 1) := by decide +kernel
theorem dL_law_858 : decode cL_law 858 = .ok (.aload_n 0, 1) := by decide +kernel
theorem dL_law_859 : decode cL_law 859 = .ok (.iload_n 3, 1) := by decide +kernel
theorem dL_law_860 : decode cL_law 860 = .ok (.iconst 1, 1) := by decide +kernel
theorem dL_law_861 : decode cL_law 861 = .ok (.iadd, 1) := by decide +kernel
theorem dL_law_862 : decode cL_law 862 = .ok (.iaload, 1) := by decide +kernel
theorem dL_law_863 : decode cL_law 863 = .ok (.aload_n 0, 1) := by decide +kernel
theorem dL_law_864 : decode cL_law 864 = .ok (.iload_n 3, 1) := by decide +kernel
theorem dL_law_865 : decode cL_law 865 = .ok (.iconst 2, 1) := by decide +kernel
theorem dL_law_866 : decode cL_law 866 = .ok (.iadd, 1) := by decide +kernel
theorem dL_law_867 : decode cL_law 867 = .ok (.iaload, 1) := by decide +kernel
theorem dL_law_868 : decode cL_law 868 = .ok (.invokevirtual 114, 3) := by decide +kernel
theorem dL_law_871 : decode cL_law 871 = .ok (.aload_n 2, 1) := by decide +kernel
theorem dL_law_872 : decode cL_law 872 = .ok (.aload_n 0, 1) := by decide +kernel
theorem dL_law_873 : decode cL_law 873 = .ok (.iload_n 3, 1) := by decide +kernel
theorem dL_law_874 : decode cL_law 874 = .ok (.iconst 1, 1) := by decide +kernel
theorem dL_law_875 : decode cL_law 875 = .ok (.iadd, 1) := by decide +kernel
theorem dL_law_876 : decode cL_law 876 = .ok (.iaload, 1) := by decide +kernel
theorem dL_law_877 : decode cL_law 877 = .ok (.aload_n 0, 1) := by decide +kernel
theorem dL_law_878 : decode cL_law 878 = .ok (.iload_n 3, 1) := by decide +kernel
theorem dL_law_879 : decode cL_law 879 = .ok (.iconst 2, 1) := by decide +kernel
theorem dL_law_880 : decode cL_law 880 = .ok (.iadd, 1) := by decide +kernel
theorem dL_law_881 : decode cL_law 881 = .ok (.iaload, 1) := by decide +kernel
theorem dL_law_882 : decode cL_law 882 = .ok (.invokevirtual 117, 3) := by decide +kernel
theorem dL_law_885 : decode cL_law 885 = .ok (.lcmp, 1) := by decide +kernel
theorem dL_law_886 : decode cL_law 886 = .ok (.ifCond .eq 554, 3) := by decide +kernel
theorem dL_law_889 : decode cL_law 889 = .ok (.iconst 0, 1) := by decide +kernel
theorem dL_law_890 : decode cL_law 890 = .ok (.ireturn, 1) := by decide +kernel
theorem dL_law_891 : decode cL_law 891 = .ok (.aload_n 1, 1) := by decide +kernel
theorem dL_law_892 : decode cL_law 892 = .ok (.aload_n 0, 1) := by decide +kernel
theorem dL_law_893 : decode cL_law 893 = .ok (.iload_n 3, 1) := by decide +kernel
theorem dL_law_894 : decode cL_law 894 = .ok (.iconst 1, 1) := by decide +kernel
theorem dL_law_895 : decode cL_law 895 = .ok (.iadd, 1) := by decide +kernel
theorem dL_law_896 : decode cL_law 896 = .ok (.iaload, 1) := by decide +kernel
theorem dL_law_897 : decode cL_law 897 = .ok (.aload_n 0, 1) := by decide +kernel
theorem dL_law_898 : decode cL_law 898 = .ok (.iload_n 3, 1) := by decide +kernel
theorem dL_law_899 : decode cL_law 899 = .ok (.iconst 2, 1) := by decide +kernel
theorem dL_law_900 : decode cL_law 900 = .ok (.iadd, 1) := by decide +kernel
theorem dL_law_901 : decode cL_law 901 = .ok (.iaload, 1) := by decide +kernel
theorem dL_law_902 : decode cL_law 902 = .ok (.invokevirtual 118, 3) := by decide +kernel
theorem dL_law_905 : decode cL_law 905 = .ok (.aload_n 2, 1) := by decide +kernel
theorem dL_law_906 : decode cL_law 906 = .ok (.aload_n 0, 1) := by decide +kernel
theorem dL_law_907 : decode cL_law 907 = .ok (.iload_n 3, 1) := by decide +kernel
theorem dL_law_908 : decode cL_law 908 = .ok (.iconst 1, 1) := by decide +kernel
theorem dL_law_909 : decode cL_law 909 = .ok (.iadd, 1) := by decide +kernel
theorem dL_law_910 : decode cL_law 910 = .ok (.iaload, 1) := by decide +kernel
theorem dL_law_911 : decode cL_law 911 = .ok (.aload_n 0, 1) := by decide +kernel
theorem dL_law_912 : decode cL_law 912 = .ok (.iload_n 3, 1) := by decide +kernel
theorem dL_law_913 : decode cL_law 913 = .ok (.iconst 2, 1) := by decide +kernel
theorem dL_law_914 : decode cL_law 914 = .ok (.iadd, 1) := by decide +kernel
theorem dL_law_915 : decode cL_law 915 = .ok (.iaload, 1) := by decide +kernel
theorem dL_law_916 : decode cL_law 916 = .ok (.invokevirtual 121, 3) := by decide +kernel
theorem dL_law_919 : decode cL_law 919 = .ok (.if_icmp .eq 521, 3) := by decide +kernel
theorem dL_law_922 : decode cL_law 922 = .ok (.iconst 0, 1) := by decide +kernel
theorem dL_law_923 : decode cL_law 923 = .ok (.ireturn, 1) := by decide +kernel
theorem dL_law_924 : decode cL_law 924 = .ok (.aload_n 1, 1) := by decide +kernel
theorem dL_law_925 : decode cL_law 925 = .ok (.aload_n 0, 1) := by decide +kernel
theorem dL_law_926 : decode cL_law 926 = .ok (.iload_n 3, 1) := by decide +kernel
theorem dL_law_927 : decode cL_law 927 = .ok (.iconst 1, 1) := by decide +kernel
theorem dL_law_928 : decode cL_law 928 = .ok (.iadd, 1) := by decide +kernel
theorem dL_law_929 : decode cL_law 929 = .ok (.iaload, 1) := by decide +kernel
theorem dL_law_930 : decode cL_law 930 = .ok (.aload_n 0, 1) := by decide +kernel
theorem dL_law_931 : decode cL_law 931 = .ok (.iload_n 3, 1) := by decide +kernel
theorem dL_law_932 : decode cL_law 932 = .ok (.iconst 2, 1) := by decide +kernel
theorem dL_law_933 : decode cL_law 933 = .ok (.iadd, 1) := by decide +kernel
theorem dL_law_934 : decode cL_law 934 = .ok (.iaload, 1) := by decide +kernel
theorem dL_law_935 : decode cL_law 935 = .ok (.invokevirtual 122, 3) := by decide +kernel
theorem dL_law_938 : decode cL_law 938 = .ok (.aload_n 2, 1) := by decide +kernel
theorem dL_law_939 : decode cL_law 939 = .ok (.aload_n 0, 1) := by decide +kernel
theorem dL_law_940 : decode cL_law 940 = .ok (.iload_n 3, 1) := by decide +kernel
theorem dL_law_941 : decode cL_law 941 = .ok (.iconst 1, 1) := by decide +kernel
theorem dL_law_942 : decode cL_law 942 = .ok (.iadd, 1) := by decide +kernel
theorem dL_law_943 : decode cL_law 943 = .ok (.iaload, 1) := by decide +kernel
theorem dL_law_944 : decode cL_law 944 = .ok (.aload_n 0, 1) := by decide +kernel
theorem dL_law_945 : decode cL_law 945 = .ok (.iload_n 3, 1) := by decide +kernel
theorem dL_law_946 : decode cL_law 946 = .ok (.iconst 2, 1) := by decide +kernel
theorem dL_law_947 : decode cL_law 947 = .ok (.iadd, 1) := by decide +kernel
theorem dL_law_948 : decode cL_law 948 = .ok (.iaload, 1) := by decide +kernel
theorem dL_law_949 : decode cL_law 949 = .ok (.invokevirtual 125, 3) := by decide +kernel
theorem dL_law_952 : decode cL_law 952 = .ok (.lcmp, 1) := by decide +kernel
theorem dL_law_953 : decode cL_law 953 = .ok (.ifCond .eq 487, 3) := by decide +kernel
theorem dL_law_956 : decode cL_law 956 = .ok (.iconst 0, 1) := by decide +kernel
theorem dL_law_957 : decode cL_law 957 = .ok (.ireturn, 1) := by decide +kernel
theorem dL_law_958 : decode cL_law 958 = .ok (.aload_n 1, 1) := by decide +kernel
theorem dL_law_959 : decode cL_law 959 = .ok (.aload_n 0, 1) := by decide +kernel
theorem dL_law_960 : decode cL_law 960 = .ok (.iload_n 3, 1) := by decide +kernel
theorem dL_law_961 : decode cL_law 961 = .ok (.iconst 1, 1) := by decide +kernel
theorem dL_law_962 : decode cL_law 962 = .ok (.iadd, 1) := by decide +kernel
theorem dL_law_963 : decode cL_law 963 = .ok (.iaload, 1) := by decide +kernel
theorem dL_law_964 : decode cL_law 964 = .ok (.aload_n 0, 1) := by decide +kernel
theorem dL_law_965 : decode cL_law 965 = .ok (.iload_n 3, 1) := by decide +kernel
theorem dL_law_966 : decode cL_law 966 = .ok (.iconst 2, 1) := by decide +kernel
theorem dL_law_967 : decode cL_law 967 = .ok (.iadd, 1) := by decide +kernel
theorem dL_law_968 : decode cL_law 968 = .ok (.iaload, 1) := by decide +kernel
theorem dL_law_969 : decode cL_law 969 = .ok (.aload_n 0, 1) := by decide +kernel
theorem dL_law_970 : decode cL_law 970 = .ok (.iload_n 3, 1) := by decide +kernel
theorem dL_law_971 : decode cL_law 971 = .ok (.iconst 3, 1) := by decide +kernel
theorem dL_law_972 : decode cL_law 972 = .ok (.iadd, 1) := by decide +kernel
theorem dL_law_973 : decode cL_law 973 = .ok (.iaload, 1) := by decide +kernel
theorem dL_law_974 : decode cL_law 974 = .ok (.invokevirtual 126, 3) := by decide +kernel
theorem dL_law_977 : decode cL_law 977 = .ok (.aload_n 2, 1) := by decide +kernel
theorem dL_law_978 : decode cL_law 978 = .ok (.aload_n 0, 1) := by decide +kernel
theorem dL_law_979 : decode cL_law 979 = .ok (.iload_n 3, 1) := by decide +kernel
theorem dL_law_980 : decode cL_law 980 = .ok (.iconst 1, 1) := by decide +kernel
theorem dL_law_981 : decode cL_law 981 = .ok (.iadd, 1) := by decide +kernel
theorem dL_law_982 : decode cL_law 982 = .ok (.iaload, 1) := by decide +kernel
theorem dL_law_983 : decode cL_law 983 = .ok (.aload_n 0, 1) := by decide +kernel
theorem dL_law_984 : decode cL_law 984 = .ok (.iload_n 3, 1) := by decide +kernel
theorem dL_law_985 : decode cL_law 985 = .ok (.iconst 2, 1) := by decide +kernel
theorem dL_law_986 : decode cL_law 986 = .ok (.iadd, 1) := by decide +kernel
theorem dL_law_987 : decode cL_law 987 = .ok (.iaload, 1) := by decide +kernel
theorem dL_law_988 : decode cL_law 988 = .ok (.aload_n 0, 1) := by decide +kernel
theorem dL_law_989 : decode cL_law 989 = .ok (.iload_n 3, 1) := by decide +kernel
theorem dL_law_990 : decode cL_law 990 = .ok (.iconst 3, 1) := by decide +kernel
theorem dL_law_991 : decode cL_law 991 = .ok (.iadd, 1) := by decide +kernel
theorem dL_law_992 : decode cL_law 992 = .ok (.iaload, 1) := by decide +kernel
theorem dL_law_993 : decode cL_law 993 = .ok (.invokevirtual 130, 3) := by decide +kernel
theorem dL_law_996 : decode cL_law 996 = .ok (.lcmp, 1) := by decide +kernel
theorem dL_law_997 : decode cL_law 997 = .ok (.ifCond .eq 443, 3) := by decide +kernel
theorem dL_law_1000 : decode cL_law 1000 = .ok (.iconst 0, 1) := by decide +kernel
theorem dL_law_1001 : decode cL_law 1001 = .ok (.ireturn, 1) := by decide +kernel
theorem dL_law_1002 : decode cL_law 1002 = .ok (.aload_n 1, 1) := by decide +kernel
theorem dL_law_1003 : decode cL_law 1003 = .ok (.aload_n 0, 1) := by decide +kernel
theorem dL_law_1004 : decode cL_law 1004 = .ok (.iload_n 3, 1) := by decide +kernel
theorem dL_law_1005 : decode cL_law 1005 = .ok (.iconst 1, 1) := by decide +kernel
theorem dL_law_1006 : decode cL_law 1006 = .ok (.iadd, 1) := by decide +kernel
theorem dL_law_1007 : decode cL_law 1007 = .ok (.iaload, 1) := by decide +kernel
theorem dL_law_1008 : decode cL_law 1008 = .ok (.invokevirtual 131, 3) := by decide +kernel
theorem dL_law_1011 : decode cL_law 1011 = .ok (.aload_n 2, 1) := by decide +kernel
theorem dL_law_1012 : decode cL_law 1012 = .ok (.aload_n 0, 1) := by decide +kernel
theorem dL_law_1013 : decode cL_law 1013 = .ok (.iload_n 3, 1) := by decide +kernel
theorem dL_law_1014 : decode cL_law 1014 = .ok (.iconst 1, 1) := by decide +kernel
theorem dL_law_1015 : decode cL_law 1015 = .ok (.iadd, 1) := by decide +kernel
theorem dL_law_1016 : decode cL_law 1016 = .ok (.iaload, 1) := by decide +kernel
theorem dL_law_1017 : decode cL_law 1017 = .ok (.invokevirtual 134, 3) := by decide +kernel
theorem dL_law_1020 : decode cL_law 1020 = .ok (.if_icmp .eq 420, 3) := by decide +kernel
theorem dL_law_1023 : decode cL_law 1023 = .ok (.iconst 0, 1) := by decide +kernel
theorem dL_law_1024 : decode cL_law 1024 = .ok (.ireturn, 1) := by decide +kernel
theorem dL_law_1025 : decode cL_law 1025 = .ok (.aload_n 1, 1) := by decide +kernel
theorem dL_law_1026 : decode cL_law 1026 = .ok (.invokevirtual 135, 3) := by decide +kernel
theorem dL_law_1029 : decode cL_law 1029 = .ok (.aload_n 2, 1) := by decide +kernel
theorem dL_law_1030 : decode cL_law 1030 = .ok (.invokevirtual 138, 3) := by decide +kernel
theorem dL_law_1033 : decode cL_law 1033 = .ok (.if_icmp .eq 407, 3) := by decide +kernel
theorem dL_law_1036 : decode cL_law 1036 = .ok (.iconst 0, 1) := by decide +kernel
theorem dL_law_1037 : decode cL_law 1037 = .ok (.ireturn, 1) := by decide +kernel
theorem dL_law_1038 : decode cL_law 1038 = .ok (.aload_n 1, 1) := by decide +kernel
theorem dL_law_1039 : decode cL_law 1039 = .ok (.invokevirtual 139, 3) := by decide +kernel
theorem dL_law_1042 : decode cL_law 1042 = .ok (.aload_n 2, 1) := by decide +kernel
theorem dL_law_1043 : decode cL_law 1043 = .ok (.invokevirtual 142, 3) := by decide +kernel
theorem dL_law_1046 : decode cL_law 1046 = .ok (.if_icmp .eq 394, 3) := by decide +kernel
theorem dL_law_1049 : decode cL_law 1049 = .ok (.iconst 0, 1) := by decide +kernel
theorem dL_law_1050 : decode cL_law 1050 = .ok (.ireturn, 1) := by decide +kernel
theorem dL_law_1051 : decode cL_law 1051 = .ok (.aload_n 1, 1) := by decide +kernel
theorem dL_law_1052 : decode cL_law 1052 = .ok (.aload_n 0, 1) := by decide +kernel
theorem dL_law_1053 : decode cL_law 1053 = .ok (.iload_n 3, 1) := by decide +kernel
theorem dL_law_1054 : decode cL_law 1054 = .ok (.iconst 1, 1) := by decide +kernel
theorem dL_law_1055 : decode cL_law 1055 = .ok (.iadd, 1) := by decide +kernel
theorem dL_law_1056 : decode cL_law 1056 = .ok (.iaload, 1) := by decide +kernel
theorem dL_law_1057 : decode cL_law 1057 = .ok (.aload_n 0, 1) := by decide +kernel
theorem dL_law_1058 : decode cL_law 1058 = .ok (.iload_n 3, 1) := by decide +kernel
theorem dL_law_1059 : decode cL_law 1059 = .ok (.iconst 2, 1) := by decide +kernel
theorem dL_law_1060 : decode cL_law 1060 = .ok (.iadd, 1) := by decide +kernel
theorem dL_law_1061 : decode cL_law 1061 = .ok (.iaload, 1) := by decide +kernel
theorem dL_law_1062 : decode cL_law 1062 = .ok (.invokevirtual 143, 3) := by decide +kernel
theorem dL_law_1065 : decode cL_law 1065 = .ok (.aload_n 2, 1) := by decide +kernel
theorem dL_law_1066 : decode cL_law 1066 = .ok (.aload_n 0, 1) := by decide +kernel
theorem dL_law_1067 : decode cL_law 1067 = .ok (.iload_n 3, 1) := by decide +kernel
theorem dL_law_1068 : decode cL_law 1068 = .ok (.iconst 1, 1) := by decide +kernel
theorem dL_law_1069 : decode cL_law 1069 = .ok (.iadd, 1) := by decide +kernel
theorem dL_law_1070 : decode cL_law 1070 = .ok (.iaload, 1) := by decide +kernel
theorem dL_law_1071 : decode cL_law 1071 = .ok (.aload_n 0, 1) := by decide +kernel
theorem dL_law_1072 : decode cL_law 1072 = .ok (.iload_n 3, 1) := by decide +kernel
theorem dL_law_1073 : decode cL_law 1073 = .ok (.iconst 2, 1) := by decide +kernel
theorem dL_law_1074 : decode cL_law 1074 = .ok (.iadd, 1) := by decide +kernel
theorem dL_law_1075 : decode cL_law 1075 = .ok (.iaload, 1) := by decide +kernel
theorem dL_law_1076 : decode cL_law 1076 = .ok (.invokevirtual 146, 3) := by decide +kernel
theorem dL_law_1079 : decode cL_law 1079 = .ok (.if_icmp .eq 361, 3) := by decide +kernel
theorem dL_law_1082 : decode cL_law 1082 = .ok (.iconst 0, 1) := by decide +kernel
theorem dL_law_1083 : decode cL_law 1083 = .ok (.ireturn, 1) := by decide +kernel
theorem dL_law_1084 : decode cL_law 1084 = .ok (.aload_n 1, 1) := by decide +kernel
theorem dL_law_1085 : decode cL_law 1085 = .ok (.aload_n 0, 1) := by decide +kernel
theorem dL_law_1086 : decode cL_law 1086 = .ok (.iload_n 3, 1) := by decide +kernel
theorem dL_law_1087 : decode cL_law 1087 = .ok (.iconst 1, 1) := by decide +kernel
theorem dL_law_1088 : decode cL_law 1088 = .ok (.iadd, 1) := by decide +kernel
theorem dL_law_1089 : decode cL_law 1089 = .ok (.iaload, 1) := by decide +kernel
theorem dL_law_1090 : decode cL_law 1090 = .ok (.invokevirtual 147, 3) := by decide +kernel
theorem dL_law_1093 : decode cL_law 1093 = .ok (.aload_n 2, 1) := by decide +kernel
theorem dL_law_1094 : decode cL_law 1094 = .ok (.aload_n 0, 1) := by decide +kernel
theorem dL_law_1095 : decode cL_law 1095 = .ok (.iload_n 3, 1) := by decide +kernel
theorem dL_law_1096 : decode cL_law 1096 = .ok (.iconst 1, 1) := by decide +kernel
theorem dL_law_1097 : decode cL_law 1097 = .ok (.iadd, 1) := by decide +kernel
theorem dL_law_1098 : decode cL_law 1098 = .ok (.iaload, 1) := by decide +kernel
theorem dL_law_1099 : decode cL_law 1099 = .ok (.invokevirtual 150, 3) := by decide +kernel
theorem dL_law_1102 : decode cL_law 1102 = .ok (.if_icmp .eq 338, 3) := by decide +kernel
theorem dL_law_1105 : decode cL_law 1105 = .ok (.iconst 0, 1) := by decide +kernel
theorem dL_law_1106 : decode cL_law 1106 = .ok (.ireturn, 1) := by decide +kernel
theorem dL_law_1107 : decode cL_law 1107 = .ok (.aload_n 1, 1) := by decide +kernel
theorem dL_law_1108 : decode cL_law 1108 = .ok (.aload_n 0, 1) := by decide +kernel
theorem dL_law_1109 : decode cL_law 1109 = .ok (.iload_n 3, 1) := by decide +kernel
theorem dL_law_1110 : decode cL_law 1110 = .ok (.iconst 1, 1) := by decide +kernel
theorem dL_law_1111 : decode cL_law 1111 = .ok (.iadd, 1) := by decide +kernel
theorem dL_law_1112 : decode cL_law 1112 = .ok (.iaload, 1) := by decide +kernel
theorem dL_law_1113 : decode cL_law 1113 = .ok (.aload_n 0, 1) := by decide +kernel
theorem dL_law_1114 : decode cL_law 1114 = .ok (.iload_n 3, 1) := by decide +kernel
theorem dL_law_1115 : decode cL_law 1115 = .ok (.iconst 2, 1) := by decide +kernel
theorem dL_law_1116 : decode cL_law 1116 = .ok (.iadd, 1) := by decide +kernel
theorem dL_law_1117 : decode cL_law 1117 = .ok (.iaload, 1) := by decide +kernel
theorem dL_law_1118 : decode cL_law 1118 = .ok (.invokevirtual 151, 3) := by decide +kernel
theorem dL_law_1121 : decode cL_law 1121 = .ok (.aload_n 2, 1) := by decide +kernel
theorem dL_law_1122 : decode cL_law 1122 = .ok (.aload_n 0, 1) := by decide +kernel
theorem dL_law_1123 : decode cL_law 1123 = .ok (.iload_n 3, 1) := by decide +kernel
theorem dL_law_1124 : decode cL_law 1124 = .ok (.iconst 1, 1) := by decide +kernel
theorem dL_law_1125 : decode cL_law 1125 = .ok (.iadd, 1) := by decide +kernel
theorem dL_law_1126 : decode cL_law 1126 = .ok (.iaload, 1) := by decide +kernel
theorem dL_law_1127 : decode cL_law 1127 = .ok (.aload_n 0, 1) := by decide +kernel
theorem dL_law_1128 : decode cL_law 1128 = .ok (.iload_n 3, 1) := by decide +kernel
theorem dL_law_1129 : decode cL_law 1129 = .ok (.iconst 2, 1) := by decide +kernel
theorem dL_law_1130 : decode cL_law 1130 = .ok (.iadd, 1) := by decide +kernel
theorem dL_law_1131 : decode cL_law 1131 = .ok (.iaload, 1) := by decide +kernel
theorem dL_law_1132 : decode cL_law 1132 = .ok (.invokevirtual 154, 3) := by decide +kernel
theorem dL_law_1135 : decode cL_law 1135 = .ok (.if_icmp .eq 305, 3) := by decide +kernel
theorem dL_law_1138 : decode cL_law 1138 = .ok (.iconst 0, 1) := by decide +kernel
theorem dL_law_1139 : decode cL_law 1139 = .ok (.ireturn, 1) := by decide +kernel
theorem dL_law_1140 : decode cL_law 1140 = .ok (.aload_n 1, 1) := by decide +kernel
theorem dL_law_1141 : decode cL_law 1141 = .ok (.aload_n 0, 1) := by decide +kernel
theorem dL_law_1142 : decode cL_law 1142 = .ok (.iload_n 3, 1) := by decide +kernel
theorem dL_law_1143 : decode cL_law 1143 = .ok (.iconst 1, 1) := by decide +kernel
theorem dL_law_1144 : decode cL_law 1144 = .ok (.iadd, 1) := by decide +kernel
theorem dL_law_1145 : decode cL_law 1145 = .ok (.iaload, 1) := by decide +kernel
theorem dL_law_1146 : decode cL_law 1146 = .ok (.invokevirtual 155, 3) := by decide +kernel
theorem dL_law_1149 : decode cL_law 1149 = .ok (.aload_n 2, 1) := by decide +kernel
theorem dL_law_1150 : decode cL_law 1150 = .ok (.aload_n 0, 1) := by decide +kernel
theorem dL_law_1151 : decode cL_law 1151 = .ok (.iload_n 3, 1) := by decide +kernel
theorem dL_law_1152 : decode cL_law 1152 = .ok (.iconst 1, 1) := by decide +kernel
theorem dL_law_1153 : decode cL_law 1153 = .ok (.iadd, 1) := by decide +kernel
theorem dL_law_1154 : decode cL_law 1154 = .ok (.iaload, 1) := by decide +kernel
theorem dL_law_1155 : decode cL_law 1155 = .ok (.invokevirtual 158, 3) := by decide +kernel
theorem dL_law_1158 : decode cL_law 1158 = .ok (.if_icmp .eq 282, 3) := by decide +kernel
theorem dL_law_1161 : decode cL_law 1161 = .ok (.iconst 0, 1) := by decide +kernel
theorem dL_law_1162 : decode cL_law 1162 = .ok (.ireturn, 1) := by decide +kernel
theorem dL_law_1163 : decode cL_law 1163 = .ok (.aload_n 1, 1) := by decide +kernel
theorem dL_law_1164 : decode cL_law 1164 = .ok (.invokevirtual 159, 3) := by decide +kernel
theorem dL_law_1167 : decode cL_law 1167 = .ok (.aload_n 2, 1) := by decide +kernel
theorem dL_law_1168 : decode cL_law 1168 = .ok (.invokevirtual 162, 3) := by decide +kernel
theorem dL_law_1171 : decode cL_law 1171 = .ok (.if_icmp .eq 269, 3) := by decide +kernel
theorem dL_law_1174 : decode cL_law 1174 = .ok (.iconst 0, 1) := by decide +kernel
theorem dL_law_1175 : decode cL_law 1175 = .ok (.ireturn, 1) := by decide +kernel
theorem dL_law_1176 : decode cL_law 1176 = .ok (.aload_n 1, 1) := by decide +kernel
theorem dL_law_1177 : decode cL_law 1177 = .ok (.aload_n 0, 1) := by decide +kernel
theorem dL_law_1178 : decode cL_law 1178 = .ok (.iload_n 3, 1) := by decide +kernel
theorem dL_law_1179 : decode cL_law 1179 = .ok (.iconst 1, 1) := by decide +kernel
theorem dL_law_1180 : decode cL_law 1180 = .ok (.iadd, 1) := by decide +kernel
theorem dL_law_1181 : decode cL_law 1181 = .ok (.iaload, 1) := by decide +kernel
theorem dL_law_1182 : decode cL_law 1182 = .ok (.aload_n 0, 1) := by decide +kernel
theorem dL_law_1183 : decode cL_law 1183 = .ok (.iload_n 3, 1) := by decide +kernel
theorem dL_law_1184 : decode cL_law 1184 = .ok (.iconst 2, 1) := by decide +kernel
theorem dL_law_1185 : decode cL_law 1185 = .ok (.iadd, 1) := by decide +kernel
theorem dL_law_1186 : decode cL_law 1186 = .ok (.iaload, 1) := by decide +kernel
theorem dL_law_1187 : decode cL_law 1187 = .ok (.aload_n 0, 1) := by decide +kernel
theorem dL_law_1188 : decode cL_law 1188 = .ok (.iload_n 3, 1) := by decide +kernel
theorem dL_law_1189 : decode cL_law 1189 = .ok (.iconst 3, 1) := by decide +kernel
theorem dL_law_1190 : decode cL_law 1190 = .ok (.iadd, 1) := by decide +kernel
theorem dL_law_1191 : decode cL_law 1191 = .ok (.iaload, 1) := by decide +kernel
theorem dL_law_1192 : decode cL_law 1192 = .ok (.invokevirtual 163, 3) := by decide +kernel
theorem dL_law_1195 : decode cL_law 1195 = .ok (.aload_n 2, 1) := by decide +kernel
theorem dL_law_1196 : decode cL_law 1196 = .ok (.aload_n 0, 1) := by decide +kernel
theorem dL_law_1197 : decode cL_law 1197 = .ok (.iload_n 3, 1) := by decide +kernel
theorem dL_law_1198 : decode cL_law 1198 = .ok (.iconst 1, 1) := by decide +kernel
theorem dL_law_1199 : decode cL_law 1199 = .ok (.iadd, 1) := by decide +kernel
theorem dL_law_1200 : decode cL_law 1200 = .ok (.iaload, 1) := by decide +kernel
theorem dL_law_1201 : decode cL_law 1201 = .ok (.aload_n 0, 1) := by decide +kernel
theorem dL_law_1202 : decode cL_law 1202 = .ok (.iload_n 3, 1) := by decide +kernel
theorem dL_law_1203 : decode cL_law 1203 = .ok (.iconst 2, 1) := by decide +kernel
theorem dL_law_1204 : decode cL_law 1204 = .ok (.iadd, 1) := by decide +kernel
theorem dL_law_1205 : decode cL_law 1205 = .ok (.iaload, 1) := by decide +kernel
theorem dL_law_1206 : decode cL_law 1206 = .ok (.aload_n 0, 1) := by decide +kernel
theorem dL_law_1207 : decode cL_law 1207 = .ok (.iload_n 3, 1) := by decide +kernel
theorem dL_law_1208 : decode cL_law 1208 = .ok (.iconst 3, 1) := by decide +kernel
theorem dL_law_1209 : decode cL_law 1209 = .ok (.iadd, 1) := by decide +kernel
theorem dL_law_1210 : decode cL_law 1210 = .ok (.iaload, 1) := by decide +kernel
theorem dL_law_1211 : decode cL_law 1211 = .ok (.invokevirtual 166, 3) := by decide +kernel
theorem dL_law_1214 : decode cL_law 1214 = .ok (.if_icmp .eq 226, 3) := by decide +kernel
theorem dL_law_1217 : decode cL_law 1217 = .ok (.iconst 0, 1) := by decide +kernel
theorem dL_law_1218 : decode cL_law 1218 = .ok (.ireturn, 1) := by decide +kernel
theorem dL_law_1219 : decode cL_law 1219 = .ok (.aload_n 1, 1) := by decide +kernel
theorem dL_law_1220 : decode cL_law 1220 = .ok (.aload_n 0, 1) := by decide +kernel
theorem dL_law_1221 : decode cL_law 1221 = .ok (.iload_n 3, 1) := by decide +kernel
theorem dL_law_1222 : decode cL_law 1222 = .ok (.iconst 1, 1) := by decide +kernel
theorem dL_law_1223 : decode cL_law 1223 = .ok (.iadd, 1) := by decide +kernel
theorem dL_law_1224 : decode cL_law 1224 = .ok (.iaload, 1) := by decide +kernel
theorem dL_law_1225 : decode cL_law 1225 = .ok (.invokevirtual 167, 3) := by decide +kernel
theorem dL_law_1228 : decode cL_law 1228 = .ok (.aload_n 2, 1) := by decide +kernel
theorem dL_law_1229 : decode cL_law 1229 = .ok (.aload_n 0, 1) := by decide +kernel
theorem dL_law_1230 : decode cL_law 1230 = .ok (.iload_n 3, 1) := by decide +kernel
theorem dL_law_1231 : decode cL_law 1231 = .ok (.iconst 1, 1) := by decide +kernel
theorem dL_law_1232 : decode cL_law 1232 = .ok (.iadd, 1) := by decide +kernel
theorem dL_law_1233 : decode cL_law 1233 = .ok (.iaload, 1) := by decide +kernel
theorem dL_law_1234 : decode cL_law 1234 = .ok (.invokevirtual 170, 3) := by decide +kernel
theorem dL_law_1237 : decode cL_law 1237 = .ok (.if_icmp .eq 203, 3) := by decide +kernel
theorem dL_law_1240 : decode cL_law 1240 = .ok (.iconst 0, 1) := by decide +kernel
theorem dL_law_1241 : decode cL_law 1241 = .ok (.ireturn, 1) := by decide +kernel
theorem dL_law_1242 : decode cL_law 1242 = .ok (.aload_n 1, 1) := by decide +kernel
theorem dL_law_1243 : decode cL_law 1243 = .ok (.aload_n 0, 1) := by decide +kernel
theorem dL_law_1244 : decode cL_law 1244 = .ok (.iload_n 3, 1) := by decide +kernel
theorem dL_law_1245 : decode cL_law 1245 = .ok (.iconst 1, 1) := by decide +kernel
theorem dL_law_1246 : decode cL_law 1246 = .ok (.iadd, 1) := by decide +kernel
theorem dL_law_1247 : decode cL_law 1247 = .ok (.iaload, 1) := by decide +kernel
theorem dL_law_1248 : decode cL_law 1248 = .ok (.invokevirtual 171, 3) := by decide +kernel
theorem dL_law_1251 : decode cL_law 1251 = .ok (.aload_n 2, 1) := by decide +kernel
theorem dL_law_1252 : decode cL_law 1252 = .ok (.aload_n 0, 1) := by decide +kernel
theorem dL_law_1253 : decode cL_law 1253 = .ok (.iload_n 3, 1) := by decide +kernel
theorem dL_law_1254 : decode cL_law 1254 = .ok (.iconst 1, 1) := by decide +kernel
theorem dL_law_1255 : decode cL_law 1255 = .ok (.iadd, 1) := by decide +kernel
theorem dL_law_1256 : decode cL_law 1256 = .ok (.iaload, 1) := by decide +kernel
theorem dL_law_1257 : decode cL_law 1257 = .ok (.invokevirtual 174, 3) := by decide +kernel
theorem dL_law_1260 : decode cL_law 1260 = .ok (.if_icmp .eq 180, 3) := by decide +kernel
theorem dL_law_1263 : decode cL_law 1263 = .ok (.iconst 0, 1) := by decide +kernel
theorem dL_law_1264 : decode cL_law 1264 = .ok (.ireturn, 1) := by decide +kernel
theorem dL_law_1265 : decode cL_law 1265 = .ok (.aload_n 1, 1) := by decide +kernel
theorem dL_law_1266 : decode cL_law 1266 = .ok (.aload_n 0, 1) := by decide +kernel
theorem dL_law_1267 : decode cL_law 1267 = .ok (.iload_n 3, 1) := by decide +kernel
theorem dL_law_1268 : decode cL_law 1268 = .ok (.iconst 1, 1) := by decide +kernel
theorem dL_law_1269 : decode cL_law 1269 = .ok (.iadd, 1) := by decide +kernel
theorem dL_law_1270 : decode cL_law 1270 = .ok (.iaload, 1) := by decide +kernel
theorem dL_law_1271 : decode cL_law 1271 = .ok (.aload_n 0, 1) := by decide +kernel
theorem dL_law_1272 : decode cL_law 1272 = .ok (.iload_n 3, 1) := by decide +kernel
theorem dL_law_1273 : decode cL_law 1273 = .ok (.iconst 2, 1) := by decide +kernel
theorem dL_law_1274 : decode cL_law 1274 = .ok (.iadd, 1) := by decide +kernel
theorem dL_law_1275 : decode cL_law 1275 = .ok (.iaload, 1) := by decide +kernel
theorem dL_law_1276 : decode cL_law 1276 = .ok (.aload_n 0, 1) := by decide +kernel
theorem dL_law_1277 : decode cL_law 1277 = .ok (.iload_n 3, 1) := by decide +kernel
theorem dL_law_1278 : decode cL_law 1278 = .ok (.iconst 3, 1) := by decide +kernel
theorem dL_law_1279 : decode cL_law 1279 = .ok (.iadd, 1) := by decide +kernel
theorem dL_law_1280 : decode cL_law 1280 = .ok (.iaload, 1) := by decide +kernel
theorem dL_law_1281 : decode cL_law 1281 = .ok (.invokevirtual 175, 3) := by decide +kernel
theorem dL_law_1284 : decode cL_law 1284 = .ok (.aload_n 2, 1) := by decide +kernel
theorem dL_law_1285 : decode cL_law 1285 = .ok (.aload_n 0, 1) := by decide +kernel
theorem dL_law_1286 : decode cL_law 1286 = .ok (.iload_n 3, 1) := by decide +kernel
theorem dL_law_1287 : decode cL_law 1287 = .ok (.iconst 1, 1) := by decide +kernel
theorem dL_law_1288 : decode cL_law 1288 = .ok (.iadd, 1) := by decide +kernel
theorem dL_law_1289 : decode cL_law 1289 = .ok (.iaload, 1) := by decide +kernel
theorem dL_law_1290 : decode cL_law 1290 = .ok (.aload_n 0, 1) := by decide +kernel
theorem dL_law_1291 : decode cL_law 1291 = .ok (.iload_n 3, 1) := by decide +kernel
theorem dL_law_1292 : decode cL_law 1292 = .ok (.iconst 2, 1) := by decide +kernel
theorem dL_law_1293 : decode cL_law 1293 = .ok (.iadd, 1) := by decide +kernel
theorem dL_law_1294 : decode cL_law 1294 = .ok (.iaload, 1) := by decide +kernel
theorem dL_law_1295 : decode cL_law 1295 = .ok (.aload_n 0, 1) := by decide +kernel
theorem dL_law_1296 : decode cL_law 1296 = .ok (.iload_n 3, 1) := by decide +kernel
theorem dL_law_1297 : decode cL_law 1297 = .ok (.iconst 3, 1) := by decide +kernel
theorem dL_law_1298 : decode cL_law 1298 = .ok (.iadd, 1) := by decide +kernel
theorem dL_law_1299 : decode cL_law 1299 = .ok (.iaload, 1) := by decide +kernel
theorem dL_law_1300 : decode cL_law 1300 = .ok (.invokevirtual 178, 3) := by decide +kernel
theorem dL_law_1303 : decode cL_law 1303 = .ok (.if_icmp .eq 137, 3) := by decide +kernel
theorem dL_law_1306 : decode cL_law 1306 = .ok (.iconst 0, 1) := by decide +kernel
theorem dL_law_1307 : decode cL_law 1307 = .ok (.ireturn, 1) := by decide +kernel
theorem dL_law_1308 : decode cL_law 1308 = .ok (.aload_n 1, 1) := by decide +kernel
theorem dL_law_1309 : decode cL_law 1309 = .ok (.aload_n 0, 1) := by decide +kernel
theorem dL_law_1310 : decode cL_law 1310 = .ok (.iload_n 3, 1) := by decide +kernel
theorem dL_law_1311 : decode cL_law 1311 = .ok (.iconst 1, 1) := by decide +kernel
theorem dL_law_1312 : decode cL_law 1312 = .ok (.iadd, 1) := by decide +kernel
theorem dL_law_1313 : decode cL_law 1313 = .ok (.iaload, 1) := by decide +kernel
theorem dL_law_1314 : decode cL_law 1314 = .ok (.aload_n 0, 1) := by decide +kernel
theorem dL_law_1315 : decode cL_law 1315 = .ok (.iload_n 3, 1) := by decide +kernel
theorem dL_law_1316 : decode cL_law 1316 = .ok (.iconst 2, 1) := by decide +kernel
theorem dL_law_1317 : decode cL_law 1317 = .ok (.iadd, 1) := by decide +kernel
theorem dL_law_1318 : decode cL_law 1318 = .ok (.iaload, 1) := by decide +kernel
theorem dL_law_1319 : decode cL_law 1319 = .ok (.aload_n 0, 1) := by decide +kernel
theorem dL_law_1320 : decode cL_law 1320 = .ok (.iload_n 3, 1) := by decide +kernel
theorem dL_law_1321 : decode cL_law 1321 = .ok (.iconst 3, 1) := by decide +kernel
theorem dL_law_1322 : decode cL_law 1322 = .ok (.iadd, 1) := by decide +kernel
theorem dL_law_1323 : decode cL_law 1323 = .ok (.iaload, 1) := by decide +kernel
theorem dL_law_1324 : decode cL_law 1324 = .ok (.invokevirtual 179, 3) := by decide +kernel
theorem dL_law_1327 : decode cL_law 1327 = .ok (.aload_n 2, 1) := by decide +kernel
theorem dL_law_1328 : decode cL_law 1328 = .ok (.aload_n 0, 1) := by decide +kernel
theorem dL_law_1329 : decode cL_law 1329 = .ok (.iload_n 3, 1) := by decide +kernel
theorem dL_law_1330 : decode cL_law 1330 = .ok (.iconst 1, 1) := by decide +kernel
theorem dL_law_1331 : decode cL_law 1331 = .ok (.iadd, 1) := by decide +kernel
theorem dL_law_1332 : decode cL_law 1332 = .ok (.iaload, 1) := by decide +kernel
theorem dL_law_1333 : decode cL_law 1333 = .ok (.aload_n 0, 1) := by decide +kernel
theorem dL_law_1334 : decode cL_law 1334 = .ok (.iload_n 3, 1) := by decide +kernel
theorem dL_law_1335 : decode cL_law 1335 = .ok (.iconst 2, 1) := by decide +kernel
theorem dL_law_1336 : decode cL_law 1336 = .ok (.iadd, 1) := by decide +kernel
theorem dL_law_1337 : decode cL_law 1337 = .ok (.iaload, 1) := by decide +kernel
theorem dL_law_1338 : decode cL_law 1338 = .ok (.aload_n 0, 1) := by decide +kernel
theorem dL_law_1339 : decode cL_law 1339 = .ok (.iload_n 3, 1) := by decide +kernel
theorem dL_law_1340 : decode cL_law 1340 = .ok (.iconst 3, 1) := by decide +kernel
theorem dL_law_1341 : decode cL_law 1341 = .ok (.iadd, 1) := by decide +kernel
theorem dL_law_1342 : decode cL_law 1342 = .ok (.iaload, 1) := by decide +kernel
theorem dL_law_1343 : decode cL_law 1343 = .ok (.invokevirtual 182, 3) := by decide +kernel
theorem dL_law_1346 : decode cL_law 1346 = .ok (.if_icmp .eq 94, 3) := by decide +kernel
theorem dL_law_1349 : decode cL_law 1349 = .ok (.iconst 0, 1) := by decide +kernel
theorem dL_law_1350 : decode cL_law 1350 = .ok (.ireturn, 1) := by decide +kernel
theorem dL_law_1351 : decode cL_law 1351 = .ok (.aload_n 1, 1) := by decide +kernel
theorem dL_law_1352 : decode cL_law 1352 = .ok (.aload_n 0, 1) := by decide +kernel
theorem dL_law_1353 : decode cL_law 1353 = .ok (.iload_n 3, 1) := by decide +kernel
theorem dL_law_1354 : decode cL_law 1354 = .ok (.iconst 1, 1) := by decide +kernel
theorem dL_law_1355 : decode cL_law 1355 = .ok (.iadd, 1) := by decide +kernel
theorem dL_law_1356 : decode cL_law 1356 = .ok (.iaload, 1) := by decide +kernel
theorem dL_law_1357 : decode cL_law 1357 = .ok (.aload_n 0, 1) := by decide +kernel
theorem dL_law_1358 : decode cL_law 1358 = .ok (.iload_n 3, 1) := by decide +kernel
theorem dL_law_1359 : decode cL_law 1359 = .ok (.iconst 2, 1) := by decide +kernel
theorem dL_law_1360 : decode cL_law 1360 = .ok (.iadd, 1) := by decide +kernel
theorem dL_law_1361 : decode cL_law 1361 = .ok (.iaload, 1) := by decide +kernel
theorem dL_law_1362 : decode cL_law 1362 = .ok (.aload_n 0, 1) := by decide +kernel
theorem dL_law_1363 : decode cL_law 1363 = .ok (.iload_n 3, 1) := by decide +kernel
theorem dL_law_1364 : decode cL_law 1364 = .ok (.iconst 3, 1) := by decide +kernel
theorem dL_law_1365 : decode cL_law 1365 = .ok (.iadd, 1) := by decide +kernel
theorem dL_law_1366 : decode cL_law 1366 = .ok (.iaload, 1) := by decide +kernel
theorem dL_law_1367 : decode cL_law 1367 = .ok (.aload_n 0, 1) := by decide +kernel
theorem dL_law_1368 : decode cL_law 1368 = .ok (.iload_n 3, 1) := by decide +kernel
theorem dL_law_1369 : decode cL_law 1369 = .ok (.iconst 4, 1) := by decide +kernel
theorem dL_law_1370 : decode cL_law 1370 = .ok (.iadd, 1) := by decide +kernel
theorem dL_law_1371 : decode cL_law 1371 = .ok (.iaload, 1) := by decide +kernel
theorem dL_law_1372 : decode cL_law 1372 = .ok (.invokevirtual 183, 3) := by decide +kernel
theorem dL_law_1375 : decode cL_law 1375 = .ok (.aload_n 2, 1) := by decide +kernel
theorem dL_law_1376 : decode cL_law 1376 = .ok (.aload_n 0, 1) := by decide +kernel
theorem dL_law_1377 : decode cL_law 1377 = .ok (.iload_n 3, 1) := by decide +kernel
theorem dL_law_1378 : decode cL_law 1378 = .ok (.iconst 1, 1) := by decide +kernel
theorem dL_law_1379 : decode cL_law 1379 = .ok (.iadd, 1) := by decide +kernel
theorem dL_law_1380 : decode cL_law 1380 = .ok (.iaload, 1) := by decide +kernel
theorem dL_law_1381 : decode cL_law 1381 = .ok (.aload_n 0, 1) := by decide +kernel
theorem dL_law_1382 : decode cL_law 1382 = .ok (.iload_n 3, 1) := by decide +kernel
theorem dL_law_1383 : decode cL_law 1383 = .ok (.iconst 2, 1) := by decide +kernel
theorem dL_law_1384 : decode cL_law 1384 = .ok (.iadd, 1) := by decide +kernel
theorem dL_law_1385 : decode cL_law 1385 = .ok (.iaload, 1) := by decide +kernel
theorem dL_law_1386 : decode cL_law 1386 = .ok (.aload_n 0, 1) := by decide +kernel
theorem dL_law_1387 : decode cL_law 1387 = .ok (.iload_n 3, 1) := by decide +kernel
theorem dL_law_1388 : decode cL_law 1388 = .ok (.iconst 3, 1) := by decide +kernel
theorem dL_law_1389 : decode cL_law 1389 = .ok (.iadd, 1) := by decide +kernel
theorem dL_law_1390 : decode cL_law 1390 = .ok (.iaload, 1) := by decide +kernel
theorem dL_law_1391 : decode cL_law 1391 = .ok (.aload_n 0, 1) := by decide +kernel
theorem dL_law_1392 : decode cL_law 1392 = .ok (.iload_n 3, 1) := by decide +kernel
theorem dL_law_1393 : decode cL_law 1393 = .ok (.iconst 4, 1) := by decide +kernel
theorem dL_law_1394 : decode cL_law 1394 = .ok (.iadd, 1) := by decide +kernel
theorem dL_law_1395 : decode cL_law 1395 = .ok (.iaload, 1) := by decide +kernel
theorem dL_law_1396 : decode cL_law 1396 = .ok (.invokevirtual 187, 3) := by decide +kernel
theorem dL_law_1399 : decode cL_law 1399 = .ok (.if_icmp .eq 41, 3) := by decide +kernel
theorem dL_law_1402 : decode cL_law 1402 = .ok (.iconst 0, 1) := by decide +kernel
theorem dL_law_1403 : decode cL_law 1403 = .ok (.ireturn, 1) := by decide +kernel
theorem dL_law_1404 : decode cL_law 1404 = .ok (.aload_n 1, 1) := by decide +kernel
theorem dL_law_1405 : decode cL_law 1405 = .ok (.invokevirtual 188, 3) := by decide +kernel
theorem dL_law_1408 : decode cL_law 1408 = .ok (.aload_n 2, 1) := by decide +kernel
theorem dL_law_1409 : decode cL_law 1409 = .ok (.invokevirtual 191, 3) := by decide +kernel
theorem dL_law_1412 : decode cL_law 1412 = .ok (.if_icmp .eq 28, 3) := by decide +kernel
theorem dL_law_1415 : decode cL_law 1415 = .ok (.iconst 0, 1) := by decide +kernel
theorem dL_law_1416 : decode cL_law 1416 = .ok (.ireturn, 1) := by decide +kernel
theorem dL_law_1417 : decode cL_law 1417 = .ok (.aload_n 1, 1) := by decide +kernel
theorem dL_law_1418 : decode cL_law 1418 = .ok (.aload_n 0, 1) := by decide +kernel
theorem dL_law_1419 : decode cL_law 1419 = .ok (.iload_n 3, 1) := by decide +kernel
theorem dL_law_1420 : decode cL_law 1420 = .ok (.iconst 1, 1) := by decide +kernel
theorem dL_law_1421 : decode cL_law 1421 = .ok (.iadd, 1) := by decide +kernel
theorem dL_law_1422 : decode cL_law 1422 = .ok (.iaload, 1) := by decide +kernel
theorem dL_law_1423 : decode cL_law 1423 = .ok (.invokevirtual 192, 3) := by decide +kernel
theorem dL_law_1426 : decode cL_law 1426 = .ok (.aload_n 2, 1) := by decide +kernel
theorem dL_law_1427 : decode cL_law 1427 = .ok (.aload_n 0, 1) := by decide +kernel
theorem dL_law_1428 : decode cL_law 1428 = .ok (.iload_n 3, 1) := by decide +kernel
theorem dL_law_1429 : decode cL_law 1429 = .ok (.iconst 1, 1) := by decide +kernel
theorem dL_law_1430 : decode cL_law 1430 = .ok (.iadd, 1) := by decide +kernel
theorem dL_law_1431 : decode cL_law 1431 = .ok (.iaload, 1) := by decide +kernel
theorem dL_law_1432 : decode cL_law 1432 = .ok (.invokevirtual 195, 3) := by decide +kernel
theorem dL_law_1435 : decode cL_law 1435 = .ok (.if_icmp .eq 5, 3) := by decide +kernel
theorem dL_law_1438 : decode cL_law 1438 = .ok (.iconst 0, 1) := by decide +kernel
theorem dL_law_1439 : decode cL_law 1439 = .ok (.ireturn, 1) := by decide +kernel
theorem dL_law_1440 : decode cL_law 1440 = .ok (.iinc 3 5, 3) := by decide +kernel
theorem dL_law_1443 : decode cL_law 1443 = .ok (.goto (-1425), 3) := by decide +kernel
theorem dL_law_1446 : decode cL_law 1446 = .ok (.iconst 1, 1) := by decide +kernel
theorem dL_law_1447 : decode cL_law 1447 = .ok (.ireturn, 1) := by decide +kernel
end
section
/-! the world: the cells of the object and of the reference, by their places 0 .. 59; a memory is a row of numbers for each place -/
abbrev Mem : Type := Nat → Nat → Int
/-- launch, base, class numbers and slots, array classes, addresses, string constants and their bytes -/
abbrev En : Type := Launch × Nat × va_G × (Nat → ClassId) × (Nat → Nat) × (Nat → Nat) × (Nat → Nat)
abbrev eL (E : En) : Launch := E.1
abbrev eB (E : En) : Nat := E.2.1
abbrev eD (E : En) : va_G := E.2.2.1
abbrev eC (E : En) : Nat → ClassId := E.2.2.2.1
abbrev eA (E : En) : Nat → Nat := E.2.2.2.2.1
abbrev eK (E : En) : Nat → Nat := E.2.2.2.2.2.1
abbrev eV (E : En) : Nat → Nat := E.2.2.2.2.2.2
def vi (x : Int) : Value := .int (Int32.ofInt x)
def vl (x : Int) : Value := .long (Int64.ofInt x)
def rf (E : En) (j : Nat) : Value := .ref (eA E j)
/-- a reference that is kept as a number: 0 is null -/
def dr (E : En) (x : Int) : Value := if x = 0 then .null else .ref (eA E x.toNat)
def AA (E : En) : Nat → Prop := fun q => eB E ≤ q
def fsX0 (E : En) (j : Nat) (r : Nat → Int) : List Value := [rf E 23, rf E 24, vi (r 2)]
def fsX1 (E : En) (j : Nat) (r : Nat → Int) : List Value := [rf E 14, rf E 21, dr E (r 2), vi (r 3)]
def fsX2 (E : En) (j : Nat) (r : Nat → Int) : List Value := [rf E (j + 1), rf E (j + 2), rf E (j + 3), rf E (j + 4), vi (r 4), vi (r 5), vi (r 6), vi (r 7), vi (r 8), vi (r 9), vi (r 10), vi (r 11), vi (r 12), vi (r 13), vi (r 14), vi (r 15), vi (r 16), vi (r 17), vi (r 18)]
def fsX3 (E : En) (j : Nat) (r : Nat → Int) : List Value := [rf E 2, vi (r 1), vi (r 2), vi (r 3), dr E (r 4), vi (r 5), vi (r 6), vi (r 7), vi (r 8), vi (r 9)]
def fsX4 (E : En) (j : Nat) (r : Nat → Int) : List Value := [rf E (j + 1), vi (r 1), vi (r 2)]
def fsX5 (E : En) (j : Nat) (r : Nat → Int) : List Value := [rf E 1, rf E 3, rf E 8, rf E 13, rf E 22, rf E 25, rf E 26, rf E 27, vi (r 8)]
def fsX6 (E : En) (j : Nat) (r : Nat → Int) : List Value := [rf E 47, vi (r 1), rf E 48, vi (r 3), rf E 49, rf E 50, vi (r 6), vi (r 7), vi (r 8), rf E 51, vi (r 10), vi (r 11), vi (r 12), vi (r 13), vi (r 14), vi (r 15), vi (r 16), vi (r 17), rf E 52, rf E 53, rf E 54, rf E 55, vi (r 22), rf E 56, rf E 57, rf E 58, rf E 59, vi (r 27)]
def cf (E : En) (i : Nat) (r : Nat → Int) : va_E := match i with
  | 0 => .inr (5, fsX5 E 0 r)
  | 1 => .inr (3, fsX3 E 1 r)
  | 2 => .inl (eC E 0, 160, .inl (fun k => Int32.ofInt (r k)))
  | 3 => .inr (2, fsX2 E 3 r)
  | 4 => .inl (eC E 0, 4, .inl (fun k => Int32.ofInt (r k)))
  | 5 => .inl (eC E 0, 4, .inl (fun k => Int32.ofInt (r k)))
  | 6 => .inl (eC E 0, 4, .inl (fun k => Int32.ofInt (r k)))
  | 7 => .inl (eC E 0, 4, .inl (fun k => Int32.ofInt (r k)))
  | 8 => .inr (2, fsX2 E 8 r)
  | 9 => .inl (eC E 0, 4, .inl (fun k => Int32.ofInt (r k)))
  | 10 => .inl (eC E 0, 4, .inl (fun k => Int32.ofInt (r k)))
  | 11 => .inl (eC E 0, 4, .inl (fun k => Int32.ofInt (r k)))
  | 12 => .inl (eC E 0, 4, .inl (fun k => Int32.ofInt (r k)))
  | 13 => .inr (1, fsX1 E 13 r)
  | 14 => .inl (eC E 5, 6, .inr (.inr (.inr (.inr (fun k => some (eA E (k + 15)))))))
  | 15 => .inl (eC E 0, 41, .inl (fun k => Int32.ofInt (r k)))
  | 16 => .inl (eC E 0, 41, .inl (fun k => Int32.ofInt (r k)))
  | 17 => .inl (eC E 0, 41, .inl (fun k => Int32.ofInt (r k)))
  | 18 => .inl (eC E 0, 41, .inl (fun k => Int32.ofInt (r k)))
  | 19 => .inl (eC E 0, 41, .inl (fun k => Int32.ofInt (r k)))
  | 20 => .inl (eC E 0, 41, .inl (fun k => Int32.ofInt (r k)))
  | 21 => .inl (eC E 0, 41, .inl (fun k => Int32.ofInt (r k)))
  | 22 => .inr (0, fsX0 E 22 r)
  | 23 => .inl (eC E 0, 6, .inl (fun k => Int32.ofInt (r k)))
  | 24 => .inl (eC E 0, 6, .inl (fun k => Int32.ofInt (r k)))
  | 25 => .inl (eC E 3, 2, .inr (.inr (.inr (.inr (fun k => some (eA E (k * 5 + 28)))))))
  | 26 => .inl (eC E 1, 2, .inl (fun k => Int32.ofInt (r k)))
  | 27 => .inl (eC E 4, 4, .inr (.inr (.inr (.inr (fun k => some (eA E (k * 2 + 38)))))))
  | 28 => .inr (2, fsX2 E 28 r)
  | 29 => .inl (eC E 0, 4, .inl (fun k => Int32.ofInt (r k)))
  | 30 => .inl (eC E 0, 4, .inl (fun k => Int32.ofInt (r k)))
  | 31 => .inl (eC E 0, 4, .inl (fun k => Int32.ofInt (r k)))
  | 32 => .inl (eC E 0, 4, .inl (fun k => Int32.ofInt (r k)))
  | 33 => .inr (2, fsX2 E 33 r)
  | 34 => .inl (eC E 0, 4, .inl (fun k => Int32.ofInt (r k)))
  | 35 => .inl (eC E 0, 4, .inl (fun k => Int32.ofInt (r k)))
  | 36 => .inl (eC E 0, 4, .inl (fun k => Int32.ofInt (r k)))
  | 37 => .inl (eC E 0, 4, .inl (fun k => Int32.ofInt (r k)))
  | 38 => .inr (4, fsX4 E 38 r)
  | 39 => .inl (eC E 0, 40, .inl (fun k => Int32.ofInt (r k)))
  | 40 => .inr (4, fsX4 E 40 r)
  | 41 => .inl (eC E 0, 40, .inl (fun k => Int32.ofInt (r k)))
  | 42 => .inr (4, fsX4 E 42 r)
  | 43 => .inl (eC E 0, 40, .inl (fun k => Int32.ofInt (r k)))
  | 44 => .inr (4, fsX4 E 44 r)
  | 45 => .inl (eC E 0, 40, .inl (fun k => Int32.ofInt (r k)))
  | 46 => .inr (6, fsX6 E 46 r)
  | 47 => .inl (eC E 0, 125, .inl (fun k => Int32.ofInt (r k)))
  | 48 => .inl (eC E 0, 4, .inl (fun k => Int32.ofInt (r k)))
  | 49 => .inl (eC E 0, 25, .inl (fun k => Int32.ofInt (r k)))
  | 50 => .inl (eC E 0, 4, .inl (fun k => Int32.ofInt (r k)))
  | 51 => .inl (eC E 0, 160, .inl (fun k => Int32.ofInt (r k)))
  | 52 => .inl (eC E 0, 12, .inl (fun k => Int32.ofInt (r k)))
  | 53 => .inl (eC E 0, 54, .inl (fun k => Int32.ofInt (r k)))
  | 54 => .inl (eC E 2, 3936, .inr (.inl (fun k => Int64.ofInt (r k))))
  | 55 => .inl (eC E 0, 12, .inl (fun k => Int32.ofInt (r k)))
  | 56 => .inl (eC E 1, 2, .inl (fun k => Int32.ofInt (r k)))
  | 57 => .inl (eC E 0, 4, .inl (fun k => Int32.ofInt (r k)))
  | 58 => .inl (eC E 0, 4, .inl (fun k => Int32.ofInt (r k)))
  | 59 => .inl (eC E 0, 160, .inl (fun k => Int32.ofInt (r k)))
  | _ => .inl (eC E 0, 0, .inl (fun k => Int32.ofInt (r k)))
def hp (E : En) (M : Mem) : va_W := (List.range 60).map (fun i => (eA E i, cf E i (M i)))
def sr (M : Mem) (a : Nat) (r : Nat → Int) : Mem := fun i => if i = a then r else M i
def st (M : Mem) (a k : Nat) (v : Int) : Mem := sr M a (fun j => if j = k then v else M a j)
theorem hp_get (E : En) (M : Mem) {j : Nat} (hj : j < 60) : (hp E M)[j]? = some (eA E j, cf E j (M j)) := by
  unfold hp; rw [List.getElem?_map, List.getElem?_range hj]; rfl
theorem hp_set (E : En) (M : Mem) {j : Nat} (hj : j < 60) (r : Nat → Int) : (hp E M).set j (eA E j, cf E j r) = hp E (sr M j r) := by
  apply List.ext_getElem?
  intro i
  rw [List.getElem?_set]
  by_cases e : j = i
  · subst e
    rw [if_pos rfl, hp_get E _ hj]
    have hl : j < (hp E M).length := by unfold hp; rw [List.length_map, List.length_range]; exact hj
    rw [if_pos hl]
    simp [sr]
  · rw [if_neg e]
    unfold hp
    rw [List.getElem?_map, List.getElem?_map]
    by_cases hi : i < 60
    · rw [List.getElem?_range hi]
      have e2 : sr M j r i = M i := by unfold sr; rw [if_neg (fun z => e z.symm)]
      simp [e2]
    · rw [List.getElem?_eq_none (by rw [List.length_range]; omega)]
      rfl
abbrev tys (E : En) : List (ClassId × FieldType) := [(eC E 0, .int), (eC E 1, .boolean), (eC E 2, .long), (eC E 3, .object "FatLean$Court"), (eC E 4, .object "FatLean$Sheet"), (eC E 5, .array .int)]
def isX2 (j : Nat) : Prop := j = 3 ∨ j = 8 ∨ j = 28 ∨ j = 33
def isX4 (j : Nat) : Prop := j = 38 ∨ j = 40 ∨ j = 42 ∨ j = 44
theorem hcX0 (E : En) (r : Nat → Int) : cf E 22 r = .inr (0, fsX0 E 22 r) := rfl
theorem hcX1 (E : En) (r : Nat → Int) : cf E 13 r = .inr (1, fsX1 E 13 r) := rfl
theorem hcX3 (E : En) (r : Nat → Int) : cf E 1 r = .inr (3, fsX3 E 1 r) := rfl
theorem hcX5 (E : En) (r : Nat → Int) : cf E 0 r = .inr (5, fsX5 E 0 r) := rfl
theorem hcX6 (E : En) (r : Nat → Int) : cf E 46 r = .inr (6, fsX6 E 46 r) := rfl
theorem hcX2 {j : Nat} (h : isX2 j) (E : En) (r : Nat → Int) : cf E j r = .inr (2, fsX2 E j r) := by rcases h with rfl | rfl | rfl | rfl <;> rfl
theorem ltX2 {j : Nat} (h : isX2 j) : j < 60 := by rcases h with rfl | rfl | rfl | rfl <;> decide
theorem hcX4 {j : Nat} (h : isX4 j) (E : En) (r : Nat → Int) : cf E j r = .inr (4, fsX4 E j r) := by rcases h with rfl | rfl | rfl | rfl <;> rfl
theorem ltX4 {j : Nat} (h : isX4 j) : j < 60 := by rcases h with rfl | rfl | rfl | rfl <;> decide
/-- an array of ints, of booleans, of longs, of n elements -/
def isI (a n : Nat) : Prop := a < 60 ∧ n < 2 ^ 31 ∧ ∀ (E : En) (r : Nat → Int), cf E a r = .inl (eC E 0, n, .inl (fun k => Int32.ofInt (r k)))
def isZ (a n : Nat) : Prop := a < 60 ∧ n < 2 ^ 31 ∧ ∀ (E : En) (r : Nat → Int), cf E a r = .inl (eC E 1, n, .inl (fun k => Int32.ofInt (r k)))
def isJ (a n : Nat) : Prop := a < 60 ∧ n < 2 ^ 31 ∧ ∀ (E : En) (r : Nat → Int), cf E a r = .inl (eC E 2, n, .inr (.inl (fun k => Int64.ofInt (r k))))
/-- an array of references: what kind, where its k-th leads -/
def isR (t a n : Nat) (f : Nat → Nat) : Prop := a < 60 ∧ n < 2 ^ 31 ∧ ∀ (E : En) (r : Nat → Int), cf E a r = .inl (eC E t, n, .inr (.inr (.inr (.inr (fun k => some (eA E (f k)))))))
theorem ar_2 : isI 2 160 := ⟨by decide, by decide, fun _ _ => rfl⟩
theorem ar_4 : isI 4 4 := ⟨by decide, by decide, fun _ _ => rfl⟩
theorem ar_5 : isI 5 4 := ⟨by decide, by decide, fun _ _ => rfl⟩
theorem ar_6 : isI 6 4 := ⟨by decide, by decide, fun _ _ => rfl⟩
theorem ar_7 : isI 7 4 := ⟨by decide, by decide, fun _ _ => rfl⟩
theorem ar_9 : isI 9 4 := ⟨by decide, by decide, fun _ _ => rfl⟩
theorem ar_10 : isI 10 4 := ⟨by decide, by decide, fun _ _ => rfl⟩
theorem ar_11 : isI 11 4 := ⟨by decide, by decide, fun _ _ => rfl⟩
theorem ar_12 : isI 12 4 := ⟨by decide, by decide, fun _ _ => rfl⟩
theorem ar_14 : isR 5 14 6 (fun k => k + 15) := ⟨by decide, by decide, fun _ _ => rfl⟩
theorem ar_15 : isI 15 41 := ⟨by decide, by decide, fun _ _ => rfl⟩
theorem ar_16 : isI 16 41 := ⟨by decide, by decide, fun _ _ => rfl⟩
theorem ar_17 : isI 17 41 := ⟨by decide, by decide, fun _ _ => rfl⟩
theorem ar_18 : isI 18 41 := ⟨by decide, by decide, fun _ _ => rfl⟩
theorem ar_19 : isI 19 41 := ⟨by decide, by decide, fun _ _ => rfl⟩
theorem ar_20 : isI 20 41 := ⟨by decide, by decide, fun _ _ => rfl⟩
theorem ar_21 : isI 21 41 := ⟨by decide, by decide, fun _ _ => rfl⟩
theorem ar_23 : isI 23 6 := ⟨by decide, by decide, fun _ _ => rfl⟩
theorem ar_24 : isI 24 6 := ⟨by decide, by decide, fun _ _ => rfl⟩
theorem ar_25 : isR 3 25 2 (fun k => k * 5 + 28) := ⟨by decide, by decide, fun _ _ => rfl⟩
theorem ar_26 : isZ 26 2 := ⟨by decide, by decide, fun _ _ => rfl⟩
theorem ar_27 : isR 4 27 4 (fun k => k * 2 + 38) := ⟨by decide, by decide, fun _ _ => rfl⟩
theorem ar_29 : isI 29 4 := ⟨by decide, by decide, fun _ _ => rfl⟩
theorem ar_30 : isI 30 4 := ⟨by decide, by decide, fun _ _ => rfl⟩
theorem ar_31 : isI 31 4 := ⟨by decide, by decide, fun _ _ => rfl⟩
theorem ar_32 : isI 32 4 := ⟨by decide, by decide, fun _ _ => rfl⟩
theorem ar_34 : isI 34 4 := ⟨by decide, by decide, fun _ _ => rfl⟩
theorem ar_35 : isI 35 4 := ⟨by decide, by decide, fun _ _ => rfl⟩
theorem ar_36 : isI 36 4 := ⟨by decide, by decide, fun _ _ => rfl⟩
theorem ar_37 : isI 37 4 := ⟨by decide, by decide, fun _ _ => rfl⟩
theorem ar_39 : isI 39 40 := ⟨by decide, by decide, fun _ _ => rfl⟩
theorem ar_41 : isI 41 40 := ⟨by decide, by decide, fun _ _ => rfl⟩
theorem ar_43 : isI 43 40 := ⟨by decide, by decide, fun _ _ => rfl⟩
theorem ar_45 : isI 45 40 := ⟨by decide, by decide, fun _ _ => rfl⟩
theorem ar_47 : isI 47 125 := ⟨by decide, by decide, fun _ _ => rfl⟩
theorem ar_48 : isI 48 4 := ⟨by decide, by decide, fun _ _ => rfl⟩
theorem ar_49 : isI 49 25 := ⟨by decide, by decide, fun _ _ => rfl⟩
theorem ar_50 : isI 50 4 := ⟨by decide, by decide, fun _ _ => rfl⟩
theorem ar_51 : isI 51 160 := ⟨by decide, by decide, fun _ _ => rfl⟩
theorem ar_52 : isI 52 12 := ⟨by decide, by decide, fun _ _ => rfl⟩
theorem ar_53 : isI 53 54 := ⟨by decide, by decide, fun _ _ => rfl⟩
theorem ar_54 : isJ 54 3936 := ⟨by decide, by decide, fun _ _ => rfl⟩
theorem ar_55 : isI 55 12 := ⟨by decide, by decide, fun _ _ => rfl⟩
theorem ar_56 : isZ 56 2 := ⟨by decide, by decide, fun _ _ => rfl⟩
theorem ar_57 : isI 57 4 := ⟨by decide, by decide, fun _ _ => rfl⟩
theorem ar_58 : isI 58 4 := ⟨by decide, by decide, fun _ _ => rfl⟩
theorem ar_59 : isI 59 160 := ⟨by decide, by decide, fun _ _ => rfl⟩
theorem ar_X2_0 {j : Nat} (h : isX2 j) : isI (j + 1) 4 := by rcases h with rfl | rfl | rfl | rfl <;> exact ⟨by decide, by decide, fun _ _ => rfl⟩
theorem ar_X2_1 {j : Nat} (h : isX2 j) : isI (j + 2) 4 := by rcases h with rfl | rfl | rfl | rfl <;> exact ⟨by decide, by decide, fun _ _ => rfl⟩
theorem ar_X2_2 {j : Nat} (h : isX2 j) : isI (j + 3) 4 := by rcases h with rfl | rfl | rfl | rfl <;> exact ⟨by decide, by decide, fun _ _ => rfl⟩
theorem ar_X2_3 {j : Nat} (h : isX2 j) : isI (j + 4) 4 := by rcases h with rfl | rfl | rfl | rfl <;> exact ⟨by decide, by decide, fun _ _ => rfl⟩
theorem ar_X4_0 {j : Nat} (h : isX4 j) : isI (j + 1) 40 := by rcases h with rfl | rfl | rfl | rfl <;> exact ⟨by decide, by decide, fun _ _ => rfl⟩
theorem is_3 : isX2 3 := by simp [isX2]
theorem is_8 : isX2 8 := by simp [isX2]
theorem is_28 : isX2 28 := by simp [isX2]
theorem is_33 : isX2 33 := by simp [isX2]
theorem is_38 : isX4 38 := by simp [isX4]
theorem is_40 : isX4 40 := by simp [isX4]
theorem is_42 : isX4 42 := by simp [isX4]
theorem is_44 : isX4 44 := by simp [isX4]
def GW (w : Cond) : Prop := w ∈ lw_tbl ∧ goodWord w = true
theorem gw_of {w : Cond} (i : Nat) (h : lw_tbl[i]? = some w) (h2 : goodWord w = true) : GW w := ⟨List.mem_of_getElem? h, h2⟩
end
section
/-! V: a method from one place on, over a memory -/
def nwl : List (String × Nat × MethodName × String) := [("FatLean", 11, ⟨"FatLean$Scribe", "<init>", "()V"⟩, "FatLean"), ("FatLean", 28, ⟨"FatLean$Counsel", "<init>", "()V"⟩, "FatLean"), ("FatLean", 35, ⟨"FatLean$Books", "<init>", "()V"⟩, "FatLean"), ("FatLean", 54, ⟨"FatLean$Sheet", "<init>", "()V"⟩, "FatLean"), ("FatLean$Scribe", 169, ⟨"FatLean", "within", "(III)Z"⟩, "FatLean"), ("FatLean$Scribe", 165, ⟨"FatLean", "has", "(II)Z"⟩, "FatLean"), ("FatLean$Scribe", 147, ⟨"FatLean", "isRot", "(I)Z"⟩, "FatLean"), ("FatLean$Court", 114, ⟨"FatLean", "isFlag", "(I)Z"⟩, "FatLean"), ("FatLean$Court", 118, ⟨"FatLean", "within", "(III)Z"⟩, "FatLean"), ("FatLean$Court", 141, ⟨"FatLean", "has", "(II)Z"⟩, "FatLean"), ("FatLean$Sheet", 32, ⟨"FatLean", "within", "(III)Z"⟩, "FatLean")]
def strl : List (Nat × String) := [(78, "land"), (87, "dream"), (92, "people"), (97, "granary"), (102, "price"), (107, "steward"), (173, "all"), (175, "part"), (177, "level"), (179, "none"), (181, "need")]
def lenS : List Nat := [4, 5, 6, 7, 5, 7, 3, 4, 5, 4, 4]
def bytS : List (List Int32) := [[108, 97, 110, 100], [100, 114, 101, 97, 109], [112, 101, 111, 112, 108, 101], [103, 114, 97, 110, 97, 114, 121], [112, 114, 105, 99, 101], [115, 116, 101, 119, 97, 114, 100], [97, 108, 108], [112, 97, 114, 116], [108, 101, 118, 101, 108], [110, 111, 110, 101], [110, 101, 101, 100]]
def wr (x : Int) : Int := (Int32.ofInt x).toInt
def wl (x : Int) : Int := (Int64.ofInt x).toInt
def SF (E : En) (s : State) : Prop :=
  va_K (eD E) vwCl (tys E) s ∧ (∀ w, GW w → ∀ a : Array Value, w.before a s = true) ∧ (∀ q ∈ nwl, va_Nw (.methodLinkNest q.1 q.2.1 q.2.2.1 q.2.2.2) s) ∧ (∀ M : Mem, va_D (AA E) (hp E M)) ∧
  vk_S 11 lenS bytS (eK E) (eV E) (AA E) s s.heap ∧ (∀ (i : Nat) (q : Nat × String), strl[i]? = some q → vk_R "FatLean$Scribe" q.1 q.2 (eK E i) s) ∧
  va_Z "java/lang/String" "COMPACT_STRINGS" "Z" (.int 1) (AA E) s s.heap ∧ va_Zq "jdk/internal/util/Preconditions" "SIOOBE_FORMATTER" "Ljava/util/function/BiFunction;" (AA E) s s.heap
theorem SF.moved {E : En} {s U : State} (hW : s.WarmedH U.vm) (hh : ∀ q : Nat, q < s.heap.size → ¬ AA E q → U.heap[q]? = s.heap[q]?) (h : SF E s) : SF E U := by
  obtain ⟨h1, h2, h3, h4, h5, h6, h7, h8⟩ := h
  exact ⟨va_K.moved hW.alike h1, fun w hw a => word_at hW (good_of_word hw.2) (h2 w hw #[]), fun q hq => va_Nw.warmM hW (h3 q hq), h4, (vk_S.moved hW.alike h5).kept hh, fun i q hq => vk_R.warm hW (h6 i q hq), (va_Z.moved hW.alike h7).kept hh, (va_Zq.moved hW.alike h8).kept hh⟩
abbrev MI : Type := MethodName × ByteArray × Nat × Option FieldType
abbrev Po : Type := Option Value → Mem → Prop
def Qc (E : En) (Q : Po) : Array Value → State → Outcome → State → Prop := fun _ s0 oc t => (∃ (r : Option Value) (M : Mem), oc = .returned r ∧ Q r M ∧ va_P (eD E) vwCl (hp E M) t.heap) ∧ va_F (AA E) s0 t
abbrev rm (d : Nat) : Room := { frames := d, cells := 0, slots := 0, locals := 60 * d }
def Cn (E : En) (mi : MI) (d : Nat) (args : List Value) (M : Mem) (Q : Po) : Prop :=
  Met (eL E) mi.1 [.code mi.1 mi.2.1 mi.2.2.1 mi.2.2.2] (rm d) (va_Pc args (fun U => SF E U ∧ va_P (eD E) vwCl (hp E M) U.heap)) (Qc E Q) 0 0 (AA E)
def V (E : En) (mi : MI) (d pc : Nat) (L : List (Nat × Value)) (stk : List Value) (M : Mem) (Q : Po) : Prop :=
  ∀ (p : Program) (e : Env) (R : Room) (s : State) (m : MethodId) (args : Array Value) (below : List Frame) (meth : Method) (c : Code) (H : Heap) (locs : List Loc) (ls : Array Slot),
    p.tables.exec = Jvm.exec → c.code = mi.2.1 → meth.sig.returnType = mi.2.2.2 → c.maxLocals = mi.2.2.1 → s.vm.findClass mi.1.cls = some m.cls → meth.locks = false → (d ≤ R.frames ∧ 60 * d ≤ R.locals) →
    SF E s → va_P (eD E) vwCl (hp E M) H → va_S (AA E) s.heap H locs → lv_has ls mi.2.2.1 L →
    W p (eL E) e R s m args below meth c H locs 0 0 (MQ below (Qc E Q) args s 0 0 (AA E)) (F0 m pc ls stk)
theorem V.entry {E : En} {mi : MI} {d : Nat} {args : List Value} {M : Mem} {Q : Po} (hcls : plainName mi.1.cls = true) (hlen : (lg_sl args).length ≤ mi.2.2.1) (h : V E mi d 0 (lv_args 0 args) [] M Q) : Cn E mi d args M Q := by
  refine Met.ofW (cc := mi.2.1) (maxL := mi.2.2.1) (ret := mi.2.2.2) hcls rfl ?_
  intro p e s m as below meth c s₁ B hml hv
  obtain ⟨rfl, hS, hP⟩ := hv
  rw [lg_entry_eq]
  exact h p e _ s m _ below meth c s.heap [] _ B.exec B.bytes B.returns hml (findClass_of_methodNamed B.named) B.notSynchronized ⟨Nat.le_refl _, Nat.le_refl _⟩ hS hP va_S.rf (lv_entry args hlen)
section VROWS
variable {E : En} {mi : MI} {d pc : Nat} {L : List (Nat × Value)} {stk : List Value} {M : Mem} {Q : Po}
theorem V.sub (L' : List (Nat × Value)) (ks : List Nat) (h : lv_pick L ks = L') (k : V E mi d pc L' stk M Q) : V E mi d pc L stk M Q := by
  intro p e R s m args below meth c H locs ls hx hb hr hml ho hk hR hS hP hT hl
  exact k p e R s m args below meth c H locs ls hx hb hr hml ho hk hR hS hP hT (lv_sub hl ks h)
theorem V.step {pc' : Nat} {stk' : List Value} (k : V E mi d pc' L stk' M Q)
    (h : ∀ (p : Program) (e : Env) (R : Room) (s : State) (m : MethodId) (args : Array Value) (below : List Frame) (meth : Method) (c : Code) (H : Heap) (locs : List Loc) (ls : Array Slot) (Z : State → Prop),
      p.tables.exec = Jvm.exec → c.code = mi.2.1 → s.vm.findClass mi.1.cls = some m.cls → SF E s → va_P (eD E) vwCl (hp E M) H → va_S (AA E) s.heap H locs → lv_has ls mi.2.2.1 L → W p (eL E) e R s m args below meth c H locs 0 0 Z (F0 m pc' ls stk') → W p (eL E) e R s m args below meth c H locs 0 0 Z (F0 m pc ls stk)) : V E mi d pc L stk M Q := by
  intro p e R s m args below meth c H locs ls hx hb hr hml ho hk hR hS hP hT hl
  exact h p e R s m args below meth c H locs ls _ hx hb ho hS hP hT hl (k p e R s m args below meth c H locs ls hx hb hr hml ho hk hR hS hP hT hl)

theorem V.iconst (n : Int) (hd : decode mi.2.1 pc = .ok (.iconst n, 1)) (k : V E mi d (pc + 1) L (vi n :: stk) M Q) : V E mi d pc L stk M Q := k.step (fun p e R s m args below meth c H locs ls Z hx hb ho hS hP hT hl k => lv_iconst hx hb hd rfl k)
theorem V.bipush (n x : Int) (hx0 : (Int8.ofInt n).toInt32 = Int32.ofInt x) (hd : decode mi.2.1 pc = .ok (.bipush n, 2)) (k : V E mi d (pc + 2) L (vi x :: stk) M Q) : V E mi d pc L stk M Q := k.step (fun p e R s m args below meth c H locs ls Z hx hb ho hS hP hT hl k => lv_bipush hx hb hd hx0 k)
theorem V.sipush (n x : Int) (hx0 : (Int16.ofInt n).toInt32 = Int32.ofInt x) (hd : decode mi.2.1 pc = .ok (.sipush n, 3)) (k : V E mi d (pc + 3) L (vi x :: stk) M Q) : V E mi d pc L stk M Q := k.step (fun p e R s m args below meth c H locs ls Z hx hb ho hS hP hT hl k => lv_sipush hx hb hd hx0 k)
theorem V.lconst (n : Fin 2) (x : Int) (hx0 : Int64.ofNat (n : Nat) = Int64.ofInt x) (hd : decode mi.2.1 pc = .ok (.lconst n, 1)) (k : V E mi d (pc + 1) L (vl x :: stk) M Q) : V E mi d pc L stk M Q := k.step (fun p e R s m args below meth c H locs ls Z hx hb ho hS hP hT hl k => lv_lconst hx hb hd hx0 k)
theorem V.ldc (n : Nat) (x : Int) (v : Int32) (hv : v = Int32.ofInt x) (hw : GW (.constant mi.1.cls n v)) (hd : decode mi.2.1 pc = .ok (.ldc n, 2)) (k : V E mi d (pc + 2) L (vi x :: stk) M Q) : V E mi d pc L stk M Q := k.step (fun p e R s m args below meth c H locs ls Z hx hb ho hS hP hT hl k => by subst hv; exact lv_ldc hx hb ho (hS.2.1 _ hw _) hd k)
theorem V.ldcw (n : Nat) (x : Int) (v : Int32) (hv : v = Int32.ofInt x) (hw : GW (.constant mi.1.cls n v)) (hd : decode mi.2.1 pc = .ok (.ldc_w n, 3)) (k : V E mi d (pc + 3) L (vi x :: stk) M Q) : V E mi d pc L stk M Q := k.step (fun p e R s m args below meth c H locs ls Z hx hb ho hS hP hT hl k => by subst hv; exact lv_ldcw hx hb ho (hS.2.1 _ hw _) hd k)
theorem V.ldc2 (n : Nat) (x : Int) (v : Int64) (hv : v = Int64.ofInt x) (hw : GW (.constantLong mi.1.cls n v)) (hd : decode mi.2.1 pc = .ok (.ldc2_w n, 3)) (k : V E mi d (pc + 3) L (vl x :: stk) M Q) : V E mi d pc L stk M Q := k.step (fun p e R s m args below meth c H locs ls Z hx hb ho hS hP hT hl k => by subst hv; exact lv_ldc2 hx hb ho (hS.2.1 _ hw _) hd k)
theorem V.ldcS (i n : Nat) (tx : String) (hq : strl[i]? = some (n, tx)) (hc : mi.1.cls = "FatLean$Scribe") (hd : decode mi.2.1 pc = .ok (.ldc n, 2)) (k : V E mi d (pc + 2) L (.ref (eK E i) :: stk) M Q) : V E mi d pc L stk M Q := k.step (fun p e R s m args below meth c H locs ls Z hx hb ho hS hP hT hl k => va_ldcS hx hb ho (by rw [hc]; exact hS.2.2.2.2.2.1 i _ hq) hd k)
theorem V.iload_n {x : Int} (n : Fin 4) (i j : Nat) (hi : (n : Nat) = i) (hd : decode mi.2.1 pc = .ok (.iload_n n, 1)) (hj : L[j]? = some (i, vi x)) (k : V E mi d (pc + 1) L (vi x :: stk) M Q) : V E mi d pc L stk M Q := k.step (fun p e R s m args below meth c H locs ls Z hx hb ho hS hP hT hl k => lv_iload_n hx hb hd hi (lv_at hl j hj) k)
theorem V.iload {x : Int} (i j : Nat) (hd : decode mi.2.1 pc = .ok (.iload i, 2)) (hj : L[j]? = some (i, vi x)) (k : V E mi d (pc + 2) L (vi x :: stk) M Q) : V E mi d pc L stk M Q := k.step (fun p e R s m args below meth c H locs ls Z hx hb ho hS hP hT hl k => lv_iload hx hb hd (lv_at hl j hj) k)
theorem V.lload_n {x : Int} (n : Fin 4) (i j : Nat) (hi : (n : Nat) = i) (hd : decode mi.2.1 pc = .ok (.lload_n n, 1)) (hj : L[j]? = some (i, vl x)) (k : V E mi d (pc + 1) L (vl x :: stk) M Q) : V E mi d pc L stk M Q := k.step (fun p e R s m args below meth c H locs ls Z hx hb ho hS hP hT hl k => lv_lload_n hx hb hd hi (lv_at hl j hj) k)
theorem V.lload {x : Int} (i j : Nat) (hd : decode mi.2.1 pc = .ok (.lload i, 2)) (hj : L[j]? = some (i, vl x)) (k : V E mi d (pc + 2) L (vl x :: stk) M Q) : V E mi d pc L stk M Q := k.step (fun p e R s m args below meth c H locs ls Z hx hb ho hS hP hT hl k => lv_lload hx hb hd (lv_at hl j hj) k)
theorem V.aload_n {x : Nat} (n : Fin 4) (i j : Nat) (hi : (n : Nat) = i) (hd : decode mi.2.1 pc = .ok (.aload_n n, 1)) (hj : L[j]? = some (i, Value.ref x)) (k : V E mi d (pc + 1) L (Value.ref x :: stk) M Q) : V E mi d pc L stk M Q := k.step (fun p e R s m args below meth c H locs ls Z hx hb ho hS hP hT hl k => lv_aload_n hx hb hd hi (lv_at hl j hj) k)
theorem V.aload {x : Nat} (i j : Nat) (hd : decode mi.2.1 pc = .ok (.aload i, 2)) (hj : L[j]? = some (i, Value.ref x)) (k : V E mi d (pc + 2) L (Value.ref x :: stk) M Q) : V E mi d pc L stk M Q := k.step (fun p e R s m args below meth c H locs ls Z hx hb ho hS hP hT hl k => lv_aload hx hb hd (lv_at hl j hj) k)
theorem V.istore_n {x : Int} (n : Fin 4) (i : Nat) (L' : List (Nat × Value)) (hi : (n : Nat) = i) (hd : decode mi.2.1 pc = .ok (.istore_n n, 1)) (hn : i < mi.2.2.1) (hL : (i, vi x) :: L.filter (fun q => !(q.1 == i) && !(q.1 + 1 == i && q.2.category == 2)) = L') (k : V E mi d (pc + 1) L' stk M Q) : V E mi d pc L (vi x :: stk) M Q := by
  intro p e R s m args below meth c H locs ls hx hb hr hml ho hk hR hS hP hT hl
  exact lv_istore_n hx hb hd hi hl hn hL (fun ls hl => k p e R s m args below meth c H locs ls hx hb hr hml ho hk hR hS hP hT hl)
theorem V.istore {x : Int} (i : Nat) (L' : List (Nat × Value)) (hd : decode mi.2.1 pc = .ok (.istore i, 2)) (hn : i < mi.2.2.1) (hL : (i, vi x) :: L.filter (fun q => !(q.1 == i) && !(q.1 + 1 == i && q.2.category == 2)) = L') (k : V E mi d (pc + 2) L' stk M Q) : V E mi d pc L (vi x :: stk) M Q := by
  intro p e R s m args below meth c H locs ls hx hb hr hml ho hk hR hS hP hT hl
  exact lv_istore hx hb hd hl hn hL (fun ls hl => k p e R s m args below meth c H locs ls hx hb hr hml ho hk hR hS hP hT hl)
theorem V.lstore_n {x : Int} (n : Fin 4) (i : Nat) (L' : List (Nat × Value)) (hi : (n : Nat) = i) (hd : decode mi.2.1 pc = .ok (.lstore_n n, 1)) (hn : i + 1 < mi.2.2.1) (hL : (i, vl x) :: L.filter (fun q => !(q.1 == i) && (!(q.1 == i + 1) && !(q.1 + 1 == i && q.2.category == 2))) = L') (k : V E mi d (pc + 1) L' stk M Q) : V E mi d pc L (vl x :: stk) M Q := by
  intro p e R s m args below meth c H locs ls hx hb hr hml ho hk hR hS hP hT hl
  exact lv_lstore_n hx hb hd hi hl hn hL (fun ls hl => k p e R s m args below meth c H locs ls hx hb hr hml ho hk hR hS hP hT hl)
theorem V.lstore {x : Int} (i : Nat) (L' : List (Nat × Value)) (hd : decode mi.2.1 pc = .ok (.lstore i, 2)) (hn : i + 1 < mi.2.2.1) (hL : (i, vl x) :: L.filter (fun q => !(q.1 == i) && (!(q.1 == i + 1) && !(q.1 + 1 == i && q.2.category == 2))) = L') (k : V E mi d (pc + 2) L' stk M Q) : V E mi d pc L (vl x :: stk) M Q := by
  intro p e R s m args below meth c H locs ls hx hb hr hml ho hk hR hS hP hT hl
  exact lv_lstore hx hb hd hl hn hL (fun ls hl => k p e R s m args below meth c H locs ls hx hb hr hml ho hk hR hS hP hT hl)
theorem V.astore_n {x : Nat} (n : Fin 4) (i : Nat) (L' : List (Nat × Value)) (hi : (n : Nat) = i) (hd : decode mi.2.1 pc = .ok (.astore_n n, 1)) (hn : i < mi.2.2.1) (hL : (i, Value.ref x) :: L.filter (fun q => !(q.1 == i) && !(q.1 + 1 == i && q.2.category == 2)) = L') (k : V E mi d (pc + 1) L' stk M Q) : V E mi d pc L (Value.ref x :: stk) M Q := by
  intro p e R s m args below meth c H locs ls hx hb hr hml ho hk hR hS hP hT hl
  exact lv_astore_n hx hb hd hi hl hn hL (fun ls hl => k p e R s m args below meth c H locs ls hx hb hr hml ho hk hR hS hP hT hl)
theorem V.astore {x : Nat} (i : Nat) (L' : List (Nat × Value)) (hd : decode mi.2.1 pc = .ok (.astore i, 2)) (hn : i < mi.2.2.1) (hL : (i, Value.ref x) :: L.filter (fun q => !(q.1 == i) && !(q.1 + 1 == i && q.2.category == 2)) = L') (k : V E mi d (pc + 2) L' stk M Q) : V E mi d pc L (Value.ref x :: stk) M Q := by
  intro p e R s m args below meth c H locs ls hx hb hr hml ho hk hR hS hP hT hl
  exact lv_astore hx hb hd hl hn hL (fun ls hl => k p e R s m args below meth c H locs ls hx hb hr hml ho hk hR hS hP hT hl)
theorem V.iinc {x : Int} (i j : Nat) (n : Int) (L' : List (Nat × Value)) (hd : decode mi.2.1 pc = .ok (.iinc i n, 3)) (hj : L[j]? = some (i, vi x)) (hn : i < mi.2.2.1) (hL : (i, vi (x + n)) :: L.filter (fun q => !(q.1 == i) && !(q.1 + 1 == i && q.2.category == 2)) = L') (k : V E mi d (pc + 3) L' stk M Q) : V E mi d pc L stk M Q := by
  intro p e R s m args below meth c H locs ls hx hb hr hml ho hk hR hS hP hT hl
  exact lv_iinc hx hb hd hl hj (Int32.ofInt_add x n).symm hn hL (fun ls hl => k p e R s m args below meth c H locs ls hx hb hr hml ho hk hR hS hP hT hl)
theorem kk_div (x y : Int) : Int32.ofInt x / Int32.ofInt y = Int32.ofInt ((wr x).tdiv (wr y)) := by
  apply Int32.toInt_inj.mp; rw [Int32.toInt_div, show (Int32.ofInt ((wr x).tdiv (wr y))).toInt = ((wr x).tdiv (wr y)).bmod Int32.size from Int32.toInt_ofInt]; rfl
theorem kk_divL (x y : Int) : Int64.ofInt x / Int64.ofInt y = Int64.ofInt ((wl x).tdiv (wl y)) := by
  apply Int64.toInt_inj.mp; rw [Int64.toInt_div, show (Int64.ofInt ((wl x).tdiv (wl y))).toInt = ((wl x).tdiv (wl y)).bmod Int64.size from Int64.toInt_ofInt]; rfl
theorem kk_wr (x : Int) : Int32.ofInt (wr x) = Int32.ofInt x := by unfold wr; exact Int32.ofInt_toInt _
theorem kk_wl (x : Int) : Int64.ofInt (wl x) = Int64.ofInt x := by unfold wl; exact Int64.ofInt_toInt _
theorem kk_ne0 {y : Int} (h : wr y ≠ 0) : ¬ Int32.ofInt y = 0 := fun e => h (by unfold wr; rw [e]; rfl)
theorem kk_ne0L {y : Int} (h : wl y ≠ 0) : ¬ Int64.ofInt y = 0 := fun e => h (by unfold wl; rw [e]; rfl)
theorem kk_rem (x y : Int) : Int32.ofInt x - Int32.ofInt x / Int32.ofInt y * Int32.ofInt y = Int32.ofInt ((wr x).tmod (wr y)) := by
  rw [kk_div, ← kk_wr x, ← kk_wr y, ← Int32.ofInt_mul, ← Int32.ofInt_sub]; congr 1; rw [Int.tmod_def, Int.mul_comm]
theorem kk_remL (x y : Int) : Int64.ofInt x - Int64.ofInt x / Int64.ofInt y * Int64.ofInt y = Int64.ofInt ((wl x).tmod (wl y)) := by
  rw [kk_divL, ← kk_wl x, ← kk_wl y, ← Int64.ofInt_mul, ← Int64.ofInt_sub]; congr 1; rw [Int.tmod_def, Int.mul_comm]
theorem V.iadd {x y : Int} (hd : decode mi.2.1 pc = .ok (.iadd, 1)) (k : V E mi d (pc + 1) L (vi (x + y) :: stk) M Q) : V E mi d pc L (vi y :: vi x :: stk) M Q := k.step (fun p e R s m args below meth c H locs ls Z hx hb ho hS hP hT hl k => by unfold vi at k; rw [Int32.ofInt_add] at k; exact lv_iadd hx hb hd k)
theorem V.isub {x y : Int} (hd : decode mi.2.1 pc = .ok (.isub, 1)) (k : V E mi d (pc + 1) L (vi (x - y) :: stk) M Q) : V E mi d pc L (vi y :: vi x :: stk) M Q := k.step (fun p e R s m args below meth c H locs ls Z hx hb ho hS hP hT hl k => by unfold vi at k; rw [Int32.ofInt_sub] at k; exact lv_isub hx hb hd k)
theorem V.imul {x y : Int} (hd : decode mi.2.1 pc = .ok (.imul, 1)) (k : V E mi d (pc + 1) L (vi (x * y) :: stk) M Q) : V E mi d pc L (vi y :: vi x :: stk) M Q := k.step (fun p e R s m args below meth c H locs ls Z hx hb ho hS hP hT hl k => by unfold vi at k; rw [Int32.ofInt_mul] at k; exact lv_imul hx hb hd k)
theorem V.ladd {x y : Int} (hd : decode mi.2.1 pc = .ok (.ladd, 1)) (k : V E mi d (pc + 1) L (vl (x + y) :: stk) M Q) : V E mi d pc L (vl y :: vl x :: stk) M Q := k.step (fun p e R s m args below meth c H locs ls Z hx hb ho hS hP hT hl k => by unfold vl at k; rw [Int64.ofInt_add] at k; exact lv_ladd hx hb hd k)
theorem V.lsub {x y : Int} (hd : decode mi.2.1 pc = .ok (.lsub, 1)) (k : V E mi d (pc + 1) L (vl (x - y) :: stk) M Q) : V E mi d pc L (vl y :: vl x :: stk) M Q := k.step (fun p e R s m args below meth c H locs ls Z hx hb ho hS hP hT hl k => by unfold vl at k; rw [Int64.ofInt_sub] at k; exact lv_lsub hx hb hd k)
theorem V.lmul {x y : Int} (hd : decode mi.2.1 pc = .ok (.lmul, 1)) (k : V E mi d (pc + 1) L (vl (x * y) :: stk) M Q) : V E mi d pc L (vl y :: vl x :: stk) M Q := k.step (fun p e R s m args below meth c H locs ls Z hx hb ho hS hP hT hl k => by unfold vl at k; rw [Int64.ofInt_mul] at k; exact lv_lmul hx hb hd k)
theorem V.idiv {x y : Int} (h0 : wr y ≠ 0) (hd : decode mi.2.1 pc = .ok (.idiv, 1)) (k : V E mi d (pc + 1) L (vi ((wr x).tdiv (wr y)) :: stk) M Q) : V E mi d pc L (vi y :: vi x :: stk) M Q := k.step (fun p e R s m args below meth c H locs ls Z hx hb ho hS hP hT hl k => by unfold vi at k; rw [← kk_div] at k; exact lv_idiv hx hb hd (kk_ne0 h0) k)
theorem V.irem {x y : Int} (h0 : wr y ≠ 0) (hd : decode mi.2.1 pc = .ok (.irem, 1)) (k : V E mi d (pc + 1) L (vi ((wr x).tmod (wr y)) :: stk) M Q) : V E mi d pc L (vi y :: vi x :: stk) M Q := k.step (fun p e R s m args below meth c H locs ls Z hx hb ho hS hP hT hl k => by unfold vi at k; rw [← kk_rem] at k; exact lv_irem hx hb hd (kk_ne0 h0) k)
theorem V.ldiv {x y : Int} (h0 : wl y ≠ 0) (hd : decode mi.2.1 pc = .ok (.ldiv, 1)) (k : V E mi d (pc + 1) L (vl ((wl x).tdiv (wl y)) :: stk) M Q) : V E mi d pc L (vl y :: vl x :: stk) M Q := k.step (fun p e R s m args below meth c H locs ls Z hx hb ho hS hP hT hl k => by unfold vl at k; rw [← kk_divL] at k; exact lv_ldiv hx hb hd (kk_ne0L h0) k)
theorem V.lrem {x y : Int} (h0 : wl y ≠ 0) (hd : decode mi.2.1 pc = .ok (.lrem, 1)) (k : V E mi d (pc + 1) L (vl ((wl x).tmod (wl y)) :: stk) M Q) : V E mi d pc L (vl y :: vl x :: stk) M Q := k.step (fun p e R s m args below meth c H locs ls Z hx hb ho hS hP hT hl k => by unfold vl at k; rw [← kk_remL] at k; exact lv_lrem hx hb hd (kk_ne0L h0) k)
def bAnd (x y : Int) : Int := (Int32.ofInt x &&& Int32.ofInt y).toInt
def bOr (x y : Int) : Int := (Int32.ofInt x ||| Int32.ofInt y).toInt
def bShl (x y : Int) : Int := (Int32.ofInt x <<< (Int32.ofInt y &&& 31)).toInt
def bShr (x y : Int) : Int := (Int32.ofInt x >>> (Int32.ofInt y &&& 31)).toInt
def bUshr (x y : Int) : Int := ((Int32.ofInt x).toUInt32 >>> ((Int32.ofInt y).toUInt32 &&& Int32.toUInt32 31)).toInt32.toInt
def b8 (x : Int) : Int := (Int32.ofInt x).toInt8.toInt32.toInt
def b16 (x : Int) : Int := (Int32.ofInt x).toInt16.toInt32.toInt
theorem V.iand {x y : Int} (hd : decode mi.2.1 pc = .ok (.iand, 1)) (k : V E mi d (pc + 1) L (vi (bAnd x y) :: stk) M Q) : V E mi d pc L (vi y :: vi x :: stk) M Q := k.step (fun p e R s m args below meth c H locs ls Z hx hb ho hS hP hT hl k => by unfold vi at k; rw [bAnd, Int32.ofInt_toInt] at k; exact lv_iand hx hb hd k)
theorem V.ior {x y : Int} (hd : decode mi.2.1 pc = .ok (.ior, 1)) (k : V E mi d (pc + 1) L (vi (bOr x y) :: stk) M Q) : V E mi d pc L (vi y :: vi x :: stk) M Q := k.step (fun p e R s m args below meth c H locs ls Z hx hb ho hS hP hT hl k => by unfold vi at k; rw [bOr, Int32.ofInt_toInt] at k; exact lv_ior hx hb hd k)
theorem V.ishl {x y : Int} (hd : decode mi.2.1 pc = .ok (.ishl, 1)) (k : V E mi d (pc + 1) L (vi (bShl x y) :: stk) M Q) : V E mi d pc L (vi y :: vi x :: stk) M Q := k.step (fun p e R s m args below meth c H locs ls Z hx hb ho hS hP hT hl k => by unfold vi at k; rw [bShl, Int32.ofInt_toInt] at k; exact lv_ishl hx hb hd k)
theorem V.ishr {x y : Int} (hd : decode mi.2.1 pc = .ok (.ishr, 1)) (k : V E mi d (pc + 1) L (vi (bShr x y) :: stk) M Q) : V E mi d pc L (vi y :: vi x :: stk) M Q := k.step (fun p e R s m args below meth c H locs ls Z hx hb ho hS hP hT hl k => by unfold vi at k; rw [bShr, Int32.ofInt_toInt] at k; exact lv_ishr hx hb hd k)
theorem V.iushr {x y : Int} (hd : decode mi.2.1 pc = .ok (.iushr, 1)) (k : V E mi d (pc + 1) L (vi (bUshr x y) :: stk) M Q) : V E mi d pc L (vi y :: vi x :: stk) M Q := k.step (fun p e R s m args below meth c H locs ls Z hx hb ho hS hP hT hl k => by unfold vi at k; rw [bUshr, Int32.ofInt_toInt] at k; exact lv_iushr hx hb hd rfl k)
theorem V.i2b {x : Int} (hd : decode mi.2.1 pc = .ok (.i2b, 1)) (k : V E mi d (pc + 1) L (vi (b8 x) :: stk) M Q) : V E mi d pc L (vi x :: stk) M Q := k.step (fun p e R s m args below meth c H locs ls Z hx hb ho hS hP hT hl k => by unfold vi at k; rw [b8, Int32.ofInt_toInt] at k; exact lv_i2b hx hb hd rfl k)
theorem V.i2s {x : Int} (hd : decode mi.2.1 pc = .ok (.i2s, 1)) (k : V E mi d (pc + 1) L (vi (b16 x) :: stk) M Q) : V E mi d pc L (vi x :: stk) M Q := k.step (fun p e R s m args below meth c H locs ls Z hx hb ho hS hP hT hl k => by unfold vi at k; rw [b16, Int32.ofInt_toInt] at k; exact lv_i2s hx hb hd rfl k)
theorem V.i2l {x : Int} (hd : decode mi.2.1 pc = .ok (.i2l, 1)) (k : V E mi d (pc + 1) L (vl (wr x) :: stk) M Q) : V E mi d pc L (vi x :: stk) M Q := k.step (fun p e R s m args below meth c H locs ls Z hx hb ho hS hP hT hl k => lv_i2l hx hb hd (by rfl) k)
theorem V.ineg {x : Int} (hd : decode mi.2.1 pc = .ok (.ineg, 1)) (k : V E mi d (pc + 1) L (vi (-x) :: stk) M Q) : V E mi d pc L (vi x :: stk) M Q := k.step (fun p e R s m args below meth c H locs ls Z hx hb ho hS hP hT hl k => by unfold vi at k; rw [Int32.ofInt_neg] at k; exact lv_ineg hx hb hd k)
theorem V.lneg {x : Int} (hd : decode mi.2.1 pc = .ok (.lneg, 1)) (k : V E mi d (pc + 1) L (vl (-x) :: stk) M Q) : V E mi d pc L (vl x :: stk) M Q := k.step (fun p e R s m args below meth c H locs ls Z hx hb ho hS hP hT hl k => by unfold vl at k; rw [Int64.ofInt_neg] at k; exact lv_lneg hx hb hd k)
theorem V.dup {v : Value} (hv : v.category = 1) (hd : decode mi.2.1 pc = .ok (.dup, 1)) (k : V E mi d (pc + 1) L (v :: v :: stk) M Q) : V E mi d pc L (v :: stk) M Q := k.step (fun p e R s m args below meth c H locs ls Z hx hb ho hS hP hT hl k => lv_dup hx hb hd hv k)
theorem V.dup2 {v u : Value} (hv : v.category = 1) (hu : u.category = 1) (hd : decode mi.2.1 pc = .ok (.dup2, 1)) (k : V E mi d (pc + 1) L (v :: u :: v :: u :: stk) M Q) : V E mi d pc L (v :: u :: stk) M Q := k.step (fun p e R s m args below meth c H locs ls Z hx hb ho hS hP hT hl k => lv_dup2_11 hx hb hd hv hu k)
theorem V.pop {v : Value} (hv : v.category = 1) (hd : decode mi.2.1 pc = .ok (.pop, 1)) (k : V E mi d (pc + 1) L stk M Q) : V E mi d pc L (v :: stk) M Q := k.step (fun p e R s m args below meth c H locs ls Z hx hb ho hS hP hT hl k => lv_pop hx hb hd hv k)
theorem kk_lt (x y : Int) : Int32.ofInt x < Int32.ofInt y ↔ wr x < wr y := Int32.lt_iff_toInt_lt
theorem kk_le (x y : Int) : Int32.ofInt x ≤ Int32.ofInt y ↔ wr x ≤ wr y := Int32.le_iff_toInt_le
theorem kk_eq (x y : Int) : Int32.ofInt x = Int32.ofInt y ↔ wr x = wr y := Int32.toInt_inj.symm
theorem kk_ltL (x y : Int) : Int64.ofInt x < Int64.ofInt y ↔ wl x < wl y := Int64.lt_iff_toInt_lt
theorem kk_leL (x y : Int) : Int64.ofInt x ≤ Int64.ofInt y ↔ wl x ≤ wl y := Int64.le_iff_toInt_le
theorem kk_eqL (x y : Int) : Int64.ofInt x = Int64.ofInt y ↔ wl x = wl y := Int64.toInt_inj.symm
theorem V.icmp_eq {x y a b off : Int} {tgt : Nat} (ha : wr x = a) (hb2 : wr y = b) (hd : decode mi.2.1 pc = .ok (.if_icmp .eq off, 3)) (ht : (pc : Int) + off = (tgt : Int)) (kt : a = b → V E mi d tgt L stk M Q) (kf : ¬ a = b → V E mi d (pc + 3) L stk M Q) : V E mi d pc L (vi y :: vi x :: stk) M Q := by
  intro p e R s m args below meth c H locs ls hx hb hr hml ho hk hR hS hP hT hl
  subst ha; subst hb2
  have w0 : wr 0 = 0 := by decide
  refine lv_icmp_eq hx hb hd ht (fun h => kt ?_ p e R s m args below meth c H locs ls hx hb hr hml ho hk hR hS hP hT hl) (fun h => kf ?_ p e R s m args below meth c H locs ls hx hb hr hml ho hk hR hS hP hT hl)
  · have g := (kk_eq x y).mp h; exact g
  · intro q; apply h; have g := (kk_eq x y).mpr; exact g q
theorem V.if_eq {x a off : Int} {tgt : Nat} (ha : wr x = a) (hd : decode mi.2.1 pc = .ok (.ifCond .eq off, 3)) (ht : (pc : Int) + off = (tgt : Int)) (kt : a = 0 → V E mi d tgt L stk M Q) (kf : ¬ a = 0 → V E mi d (pc + 3) L stk M Q) : V E mi d pc L (vi x :: stk) M Q := by
  intro p e R s m args below meth c H locs ls hx hb hr hml ho hk hR hS hP hT hl
  subst ha
  have w0 : wr 0 = 0 := by decide
  refine lv_if_eq hx hb hd ht (fun h => kt ?_ p e R s m args below meth c H locs ls hx hb hr hml ho hk hR hS hP hT hl) (fun h => kf ?_ p e R s m args below meth c H locs ls hx hb hr hml ho hk hR hS hP hT hl)
  · have g := (kk_eq x 0).mp h; rw [w0] at g; exact g
  · intro q; apply h; have g := (kk_eq x 0).mpr; rw [w0] at g; exact g q
theorem V.icmp_ne {x y a b off : Int} {tgt : Nat} (ha : wr x = a) (hb2 : wr y = b) (hd : decode mi.2.1 pc = .ok (.if_icmp .ne off, 3)) (ht : (pc : Int) + off = (tgt : Int)) (kt : ¬ a = b → V E mi d tgt L stk M Q) (kf : a = b → V E mi d (pc + 3) L stk M Q) : V E mi d pc L (vi y :: vi x :: stk) M Q := by
  intro p e R s m args below meth c H locs ls hx hb hr hml ho hk hR hS hP hT hl
  subst ha; subst hb2
  have w0 : wr 0 = 0 := by decide
  refine lv_icmp_ne hx hb hd ht (fun h => kt ?_ p e R s m args below meth c H locs ls hx hb hr hml ho hk hR hS hP hT hl) (fun h => kf ?_ p e R s m args below meth c H locs ls hx hb hr hml ho hk hR hS hP hT hl)
  · intro q; apply h; have g := (kk_eq x y).mpr; exact g q
  · have g := (kk_eq x y).mp h; exact g
theorem V.if_ne {x a off : Int} {tgt : Nat} (ha : wr x = a) (hd : decode mi.2.1 pc = .ok (.ifCond .ne off, 3)) (ht : (pc : Int) + off = (tgt : Int)) (kt : ¬ a = 0 → V E mi d tgt L stk M Q) (kf : a = 0 → V E mi d (pc + 3) L stk M Q) : V E mi d pc L (vi x :: stk) M Q := by
  intro p e R s m args below meth c H locs ls hx hb hr hml ho hk hR hS hP hT hl
  subst ha
  have w0 : wr 0 = 0 := by decide
  refine lv_if_ne hx hb hd ht (fun h => kt ?_ p e R s m args below meth c H locs ls hx hb hr hml ho hk hR hS hP hT hl) (fun h => kf ?_ p e R s m args below meth c H locs ls hx hb hr hml ho hk hR hS hP hT hl)
  · intro q; apply h; have g := (kk_eq x 0).mpr; rw [w0] at g; exact g q
  · have g := (kk_eq x 0).mp h; rw [w0] at g; exact g
theorem V.icmp_lt {x y a b off : Int} {tgt : Nat} (ha : wr x = a) (hb2 : wr y = b) (hd : decode mi.2.1 pc = .ok (.if_icmp .lt off, 3)) (ht : (pc : Int) + off = (tgt : Int)) (kt : a < b → V E mi d tgt L stk M Q) (kf : ¬ a < b → V E mi d (pc + 3) L stk M Q) : V E mi d pc L (vi y :: vi x :: stk) M Q := by
  intro p e R s m args below meth c H locs ls hx hb hr hml ho hk hR hS hP hT hl
  subst ha; subst hb2
  have w0 : wr 0 = 0 := by decide
  refine lv_icmp_lt hx hb hd ht (fun h => kt ?_ p e R s m args below meth c H locs ls hx hb hr hml ho hk hR hS hP hT hl) (fun h => kf ?_ p e R s m args below meth c H locs ls hx hb hr hml ho hk hR hS hP hT hl)
  · have g := (kk_lt x y).mp h; exact g
  · intro q; apply h; have g := (kk_lt x y).mpr; exact g q
theorem V.if_lt {x a off : Int} {tgt : Nat} (ha : wr x = a) (hd : decode mi.2.1 pc = .ok (.ifCond .lt off, 3)) (ht : (pc : Int) + off = (tgt : Int)) (kt : a < 0 → V E mi d tgt L stk M Q) (kf : ¬ a < 0 → V E mi d (pc + 3) L stk M Q) : V E mi d pc L (vi x :: stk) M Q := by
  intro p e R s m args below meth c H locs ls hx hb hr hml ho hk hR hS hP hT hl
  subst ha
  have w0 : wr 0 = 0 := by decide
  refine lv_if_lt hx hb hd ht (fun h => kt ?_ p e R s m args below meth c H locs ls hx hb hr hml ho hk hR hS hP hT hl) (fun h => kf ?_ p e R s m args below meth c H locs ls hx hb hr hml ho hk hR hS hP hT hl)
  · have g := (kk_lt x 0).mp h; rw [w0] at g; exact g
  · intro q; apply h; have g := (kk_lt x 0).mpr; rw [w0] at g; exact g q
theorem V.icmp_ge {x y a b off : Int} {tgt : Nat} (ha : wr x = a) (hb2 : wr y = b) (hd : decode mi.2.1 pc = .ok (.if_icmp .ge off, 3)) (ht : (pc : Int) + off = (tgt : Int)) (kt : b ≤ a → V E mi d tgt L stk M Q) (kf : ¬ b ≤ a → V E mi d (pc + 3) L stk M Q) : V E mi d pc L (vi y :: vi x :: stk) M Q := by
  intro p e R s m args below meth c H locs ls hx hb hr hml ho hk hR hS hP hT hl
  subst ha; subst hb2
  have w0 : wr 0 = 0 := by decide
  refine lv_icmp_ge hx hb hd ht (fun h => kt ?_ p e R s m args below meth c H locs ls hx hb hr hml ho hk hR hS hP hT hl) (fun h => kf ?_ p e R s m args below meth c H locs ls hx hb hr hml ho hk hR hS hP hT hl)
  · have g := (kk_le y x).mp h; exact g
  · intro q; apply h; have g := (kk_le y x).mpr; exact g q
theorem V.if_ge {x a off : Int} {tgt : Nat} (ha : wr x = a) (hd : decode mi.2.1 pc = .ok (.ifCond .ge off, 3)) (ht : (pc : Int) + off = (tgt : Int)) (kt : 0 ≤ a → V E mi d tgt L stk M Q) (kf : ¬ 0 ≤ a → V E mi d (pc + 3) L stk M Q) : V E mi d pc L (vi x :: stk) M Q := by
  intro p e R s m args below meth c H locs ls hx hb hr hml ho hk hR hS hP hT hl
  subst ha
  have w0 : wr 0 = 0 := by decide
  refine lv_if_ge hx hb hd ht (fun h => kt ?_ p e R s m args below meth c H locs ls hx hb hr hml ho hk hR hS hP hT hl) (fun h => kf ?_ p e R s m args below meth c H locs ls hx hb hr hml ho hk hR hS hP hT hl)
  · have g := (kk_le 0 x).mp h; rw [w0] at g; exact g
  · intro q; apply h; have g := (kk_le 0 x).mpr; rw [w0] at g; exact g q
theorem V.icmp_gt {x y a b off : Int} {tgt : Nat} (ha : wr x = a) (hb2 : wr y = b) (hd : decode mi.2.1 pc = .ok (.if_icmp .gt off, 3)) (ht : (pc : Int) + off = (tgt : Int)) (kt : b < a → V E mi d tgt L stk M Q) (kf : ¬ b < a → V E mi d (pc + 3) L stk M Q) : V E mi d pc L (vi y :: vi x :: stk) M Q := by
  intro p e R s m args below meth c H locs ls hx hb hr hml ho hk hR hS hP hT hl
  subst ha; subst hb2
  have w0 : wr 0 = 0 := by decide
  refine lv_icmp_gt hx hb hd ht (fun h => kt ?_ p e R s m args below meth c H locs ls hx hb hr hml ho hk hR hS hP hT hl) (fun h => kf ?_ p e R s m args below meth c H locs ls hx hb hr hml ho hk hR hS hP hT hl)
  · have g := (kk_lt y x).mp h; exact g
  · intro q; apply h; have g := (kk_lt y x).mpr; exact g q
theorem V.if_gt {x a off : Int} {tgt : Nat} (ha : wr x = a) (hd : decode mi.2.1 pc = .ok (.ifCond .gt off, 3)) (ht : (pc : Int) + off = (tgt : Int)) (kt : 0 < a → V E mi d tgt L stk M Q) (kf : ¬ 0 < a → V E mi d (pc + 3) L stk M Q) : V E mi d pc L (vi x :: stk) M Q := by
  intro p e R s m args below meth c H locs ls hx hb hr hml ho hk hR hS hP hT hl
  subst ha
  have w0 : wr 0 = 0 := by decide
  refine lv_if_gt hx hb hd ht (fun h => kt ?_ p e R s m args below meth c H locs ls hx hb hr hml ho hk hR hS hP hT hl) (fun h => kf ?_ p e R s m args below meth c H locs ls hx hb hr hml ho hk hR hS hP hT hl)
  · have g := (kk_lt 0 x).mp h; rw [w0] at g; exact g
  · intro q; apply h; have g := (kk_lt 0 x).mpr; rw [w0] at g; exact g q
theorem V.icmp_le {x y a b off : Int} {tgt : Nat} (ha : wr x = a) (hb2 : wr y = b) (hd : decode mi.2.1 pc = .ok (.if_icmp .le off, 3)) (ht : (pc : Int) + off = (tgt : Int)) (kt : a ≤ b → V E mi d tgt L stk M Q) (kf : ¬ a ≤ b → V E mi d (pc + 3) L stk M Q) : V E mi d pc L (vi y :: vi x :: stk) M Q := by
  intro p e R s m args below meth c H locs ls hx hb hr hml ho hk hR hS hP hT hl
  subst ha; subst hb2
  have w0 : wr 0 = 0 := by decide
  refine lv_icmp_le hx hb hd ht (fun h => kt ?_ p e R s m args below meth c H locs ls hx hb hr hml ho hk hR hS hP hT hl) (fun h => kf ?_ p e R s m args below meth c H locs ls hx hb hr hml ho hk hR hS hP hT hl)
  · have g := (kk_le x y).mp h; exact g
  · intro q; apply h; have g := (kk_le x y).mpr; exact g q
theorem V.if_le {x a off : Int} {tgt : Nat} (ha : wr x = a) (hd : decode mi.2.1 pc = .ok (.ifCond .le off, 3)) (ht : (pc : Int) + off = (tgt : Int)) (kt : a ≤ 0 → V E mi d tgt L stk M Q) (kf : ¬ a ≤ 0 → V E mi d (pc + 3) L stk M Q) : V E mi d pc L (vi x :: stk) M Q := by
  intro p e R s m args below meth c H locs ls hx hb hr hml ho hk hR hS hP hT hl
  subst ha
  have w0 : wr 0 = 0 := by decide
  refine lv_if_le hx hb hd ht (fun h => kt ?_ p e R s m args below meth c H locs ls hx hb hr hml ho hk hR hS hP hT hl) (fun h => kf ?_ p e R s m args below meth c H locs ls hx hb hr hml ho hk hR hS hP hT hl)
  · have g := (kk_le x 0).mp h; rw [w0] at g; exact g
  · intro q; apply h; have g := (kk_le x 0).mpr; rw [w0] at g; exact g q
theorem V.goto {off : Int} {tgt : Nat} (hd : decode mi.2.1 pc = .ok (.goto off, 3)) (ht : (pc : Int) + off = (tgt : Int)) (k : V E mi d tgt L stk M Q) : V E mi d pc L stk M Q := k.step (fun p e R s m args below meth c H locs ls Z hx hb ho hS hP hT hl k => lv_goto hx hb hd ht k)
theorem V.lcmp_eq {x y a b off : Int} {tgt : Nat} (ha : wl x = a) (hb2 : wl y = b) (hd : decode mi.2.1 pc = .ok (.lcmp, 1)) (hd2 : decode mi.2.1 (pc + 1) = .ok (.ifCond .eq off, 3)) (ht : ((pc + 1 : Nat) : Int) + off = (tgt : Int)) (kt : a = b → V E mi d tgt L stk M Q) (kf : ¬ a = b → V E mi d (pc + 4) L stk M Q) : V E mi d pc L (vl y :: vl x :: stk) M Q := by
  intro p e R s m args below meth c H locs ls hx hb hr hml ho hk hR hS hP hT hl
  subst ha; subst hb2
  refine W.lcmp hx hb hd ?_
  refine lv_if_eq hx hb hd2 ht (fun h => kt ?_ p e R s m args below meth c H locs ls hx hb hr hml ho hk hR hS hP hT hl) (fun h => kf ?_ p e R s m args below meth c H locs ls hx hb hr hml ho hk hR hS hP hT hl) <;> (unfold lg_cmp at h; simp only [gt_iff_lt, kk_ltL, kk_eqL] at h; revert h; split <;> (try split) <;> intro h <;> first | omega | exact absurd h (by decide))
theorem V.lcmp_ne {x y a b off : Int} {tgt : Nat} (ha : wl x = a) (hb2 : wl y = b) (hd : decode mi.2.1 pc = .ok (.lcmp, 1)) (hd2 : decode mi.2.1 (pc + 1) = .ok (.ifCond .ne off, 3)) (ht : ((pc + 1 : Nat) : Int) + off = (tgt : Int)) (kt : ¬ a = b → V E mi d tgt L stk M Q) (kf : a = b → V E mi d (pc + 4) L stk M Q) : V E mi d pc L (vl y :: vl x :: stk) M Q := by
  intro p e R s m args below meth c H locs ls hx hb hr hml ho hk hR hS hP hT hl
  subst ha; subst hb2
  refine W.lcmp hx hb hd ?_
  refine lv_if_ne hx hb hd2 ht (fun h => kt ?_ p e R s m args below meth c H locs ls hx hb hr hml ho hk hR hS hP hT hl) (fun h => kf ?_ p e R s m args below meth c H locs ls hx hb hr hml ho hk hR hS hP hT hl) <;> (unfold lg_cmp at h; simp only [gt_iff_lt, kk_ltL, kk_eqL] at h; revert h; split <;> (try split) <;> intro h <;> first | omega | exact absurd h (by decide))
theorem V.lcmp_lt {x y a b off : Int} {tgt : Nat} (ha : wl x = a) (hb2 : wl y = b) (hd : decode mi.2.1 pc = .ok (.lcmp, 1)) (hd2 : decode mi.2.1 (pc + 1) = .ok (.ifCond .lt off, 3)) (ht : ((pc + 1 : Nat) : Int) + off = (tgt : Int)) (kt : a < b → V E mi d tgt L stk M Q) (kf : ¬ a < b → V E mi d (pc + 4) L stk M Q) : V E mi d pc L (vl y :: vl x :: stk) M Q := by
  intro p e R s m args below meth c H locs ls hx hb hr hml ho hk hR hS hP hT hl
  subst ha; subst hb2
  refine W.lcmp hx hb hd ?_
  refine lv_if_lt hx hb hd2 ht (fun h => kt ?_ p e R s m args below meth c H locs ls hx hb hr hml ho hk hR hS hP hT hl) (fun h => kf ?_ p e R s m args below meth c H locs ls hx hb hr hml ho hk hR hS hP hT hl) <;> (unfold lg_cmp at h; simp only [gt_iff_lt, kk_ltL, kk_eqL] at h; revert h; split <;> (try split) <;> intro h <;> first | omega | exact absurd h (by decide))
theorem V.lcmp_ge {x y a b off : Int} {tgt : Nat} (ha : wl x = a) (hb2 : wl y = b) (hd : decode mi.2.1 pc = .ok (.lcmp, 1)) (hd2 : decode mi.2.1 (pc + 1) = .ok (.ifCond .ge off, 3)) (ht : ((pc + 1 : Nat) : Int) + off = (tgt : Int)) (kt : b ≤ a → V E mi d tgt L stk M Q) (kf : ¬ b ≤ a → V E mi d (pc + 4) L stk M Q) : V E mi d pc L (vl y :: vl x :: stk) M Q := by
  intro p e R s m args below meth c H locs ls hx hb hr hml ho hk hR hS hP hT hl
  subst ha; subst hb2
  refine W.lcmp hx hb hd ?_
  refine lv_if_ge hx hb hd2 ht (fun h => kt ?_ p e R s m args below meth c H locs ls hx hb hr hml ho hk hR hS hP hT hl) (fun h => kf ?_ p e R s m args below meth c H locs ls hx hb hr hml ho hk hR hS hP hT hl) <;> (unfold lg_cmp at h; simp only [gt_iff_lt, kk_ltL, kk_eqL] at h; revert h; split <;> (try split) <;> intro h <;> first | omega | exact absurd h (by decide))
theorem V.lcmp_gt {x y a b off : Int} {tgt : Nat} (ha : wl x = a) (hb2 : wl y = b) (hd : decode mi.2.1 pc = .ok (.lcmp, 1)) (hd2 : decode mi.2.1 (pc + 1) = .ok (.ifCond .gt off, 3)) (ht : ((pc + 1 : Nat) : Int) + off = (tgt : Int)) (kt : b < a → V E mi d tgt L stk M Q) (kf : ¬ b < a → V E mi d (pc + 4) L stk M Q) : V E mi d pc L (vl y :: vl x :: stk) M Q := by
  intro p e R s m args below meth c H locs ls hx hb hr hml ho hk hR hS hP hT hl
  subst ha; subst hb2
  refine W.lcmp hx hb hd ?_
  refine lv_if_gt hx hb hd2 ht (fun h => kt ?_ p e R s m args below meth c H locs ls hx hb hr hml ho hk hR hS hP hT hl) (fun h => kf ?_ p e R s m args below meth c H locs ls hx hb hr hml ho hk hR hS hP hT hl) <;> (unfold lg_cmp at h; simp only [gt_iff_lt, kk_ltL, kk_eqL] at h; revert h; split <;> (try split) <;> intro h <;> first | omega | exact absurd h (by decide))
theorem V.lcmp_le {x y a b off : Int} {tgt : Nat} (ha : wl x = a) (hb2 : wl y = b) (hd : decode mi.2.1 pc = .ok (.lcmp, 1)) (hd2 : decode mi.2.1 (pc + 1) = .ok (.ifCond .le off, 3)) (ht : ((pc + 1 : Nat) : Int) + off = (tgt : Int)) (kt : a ≤ b → V E mi d tgt L stk M Q) (kf : ¬ a ≤ b → V E mi d (pc + 4) L stk M Q) : V E mi d pc L (vl y :: vl x :: stk) M Q := by
  intro p e R s m args below meth c H locs ls hx hb hr hml ho hk hR hS hP hT hl
  subst ha; subst hb2
  refine W.lcmp hx hb hd ?_
  refine lv_if_le hx hb hd2 ht (fun h => kt ?_ p e R s m args below meth c H locs ls hx hb hr hml ho hk hR hS hP hT hl) (fun h => kf ?_ p e R s m args below meth c H locs ls hx hb hr hml ho hk hR hS hP hT hl) <;> (unfold lg_cmp at h; simp only [gt_iff_lt, kk_ltL, kk_eqL] at h; revert h; split <;> (try split) <;> intro h <;> first | omega | exact absurd h (by decide))
theorem V.tableIn {x a dflt lo hi off : Int} {offs : Array Int} {len tgt : Nat} (ha : wr x = a) (hd : decode mi.2.1 pc = .ok (.tableswitch dflt lo hi offs, len)) (h1 : ¬ a < lo) (h2 : ¬ hi < a) (ho2 : offs[(a - lo).toNat]? = some off) (ht : (pc : Int) + off = (tgt : Int)) (k : V E mi d tgt L stk M Q) : V E mi d pc L (vi x :: stk) M Q := k.step (fun p e R s m args below meth c H locs ls Z hx hb ho hS hP hT hl k => by subst ha; exact lv_tableIn hx hb hd h1 h2 ho2 ht k)
theorem V.tableOut {x a dflt lo hi : Int} {offs : Array Int} {len tgt : Nat} (ha : wr x = a) (hd : decode mi.2.1 pc = .ok (.tableswitch dflt lo hi offs, len)) (h : a < lo ∨ hi < a) (ht : (pc : Int) + dflt = (tgt : Int)) (k : V E mi d tgt L stk M Q) : V E mi d pc L (vi x :: stk) M Q := k.step (fun p e R s m args below meth c H locs ls Z hx hb ho hS hP hT hl k => by subst ha; exact lv_tableOut hx hb hd h ht k)
theorem V.get {ci N idx j : Nat} {fs : List Value} {C : String} {T : u_T} {v : Value} (hj : j < 60) (hc : cf E j (M j) = .inr (ci, fs)) (hcl : vwCl[ci]? = some (C, T, N)) (hin : ∀ w ∈ u_ws C T N, GW w) (f : Nat) (hf : f < N) (hv : fs[f]? = some v) (hw : GW (.fieldLink mi.1.cls idx (T f).1 (T f).2.1 (T f).2.2.1)) (hd : decode mi.2.1 pc = .ok (.getfield idx, 3)) (k : V E mi d (pc + 3) L (v :: stk) M Q) : V E mi d pc L (rf E j :: stk) M Q := k.step (fun p e R s m args below meth c H locs ls Z hx hb ho hS hP hT hl k => va_get (Ts := u_ws C T N) hx hb (fun w h => hS.2.1 w (hin w h) _) (fun _ h => h) ho hS.1 hP j (by rw [hp_get E M hj, hc]) hcl f hf (hS.2.1 _ hw _) (fun _ h => h) hv hd k)
theorem V.put {ci N idx j : Nat} {F : (Nat → Int) → List Value} {C : String} {T : u_T} {v : Value} {x : Int} {ty : FieldType} (hj : j < 60) (hc : ∀ r, cf E j r = .inr (ci, F r)) (hcl : vwCl[ci]? = some (C, T, N)) (hin : ∀ w ∈ u_ws C T N, GW w) (ty0 : Nat → FieldType) (hty : ∀ k, k < N → parseFieldDescriptor (T k).2.2.1 = some (ty0 k)) (hnm : ∀ a, a < N → ∀ b, b < N → a ≠ b → (T a).2.1 ≠ (T b).2.1) (f : Nat) (hf : f < N) (hfin : (T f).2.2.2 = false) (hdt : parseFieldDescriptor (T f).2.2.1 = some ty) (hn : narrow ty v = v) (hfit : fits ty v = true) (hlen : f < (F (M j)).length) (hset : (F (M j)).set f v = F (fun b => if b = f then x else M j b)) (hw : GW (.fieldLink mi.1.cls idx (T f).1 (T f).2.1 (T f).2.2.1)) (hd : decode mi.2.1 pc = .ok (.putfield idx, 3)) (k : V E mi d (pc + 3) L stk (st M j f x) Q) : V E mi d pc L (v :: rf E j :: stk) M Q := by
  intro p e R s m args below meth c H locs ls hx hb hr hml ho hk hR hS hP hT hl
  refine va_put (Ts := u_ws C T N) hx hb (fun w h => hS.2.1 w (hin w h) _) (fun _ h => h) ty0 hty hnm ho hS.1 hP (hS.2.2.2.1 M) hT j (fs := F (M j)) (by rw [hp_get E M hj, hc]) hcl f hf (hS.2.1 _ hw _) (fun _ h => h) hfin hdt hn hfit hlen hd (fun H locs hP1 _ hT => ?_)
  rw [hset, ← hc, hp_set E M hj] at hP1
  exact k p e R s m args below meth c H locs ls hx hb hr hml ho hk hR hS hP1 hT hl
def rd (M : Mem) (a n : Nat) (x : Int) : Option Int := if 0 ≤ wr x ∧ wr x < n then some (M a (wr x).toNat) else none
def wt (M : Mem) (a n : Nat) (x v : Int) : Option Mem := if 0 ≤ wr x ∧ wr x < n then some (st M a (wr x).toNat v) else none
theorem kk_in {x : Int} {n : Nat} (h : 0 ≤ wr x ∧ wr x < n) : vp_in (Int32.ofInt x) n := vp_in_iff.mpr h
theorem rd_some {M : Mem} {a n : Nat} {x v : Int} (h : rd M a n x = some v) : (0 ≤ wr x ∧ wr x < n) ∧ v = M a (wr x).toNat := by
  unfold rd at h; split at h
  · rename_i g; exact ⟨g, (Option.some.inj h).symm⟩
  · cases h
theorem wt_some {M M' : Mem} {a n : Nat} {x v : Int} (h : wt M a n x v = some M') : (0 ≤ wr x ∧ wr x < n) ∧ M' = st M a (wr x).toNat v := by
  unfold wt at h; split at h
  · rename_i g; exact ⟨g, (Option.some.inj h).symm⟩
  · cases h
theorem rd_lit {M : Mem} {a n : Nat} (x : Int) (k : Nat) (h : wr x = k) (hk : k < n) : rd M a n x = some (M a k) := by
  unfold rd; rw [h, if_pos ⟨by omega, by omega⟩]; rfl
theorem wt_lit {M : Mem} {a n : Nat} {v : Int} (x : Int) (k : Nat) (h : wr x = k) (hk : k < n) : wt M a n x v = some (st M a k v) := by
  unfold wt; rw [h, if_pos ⟨by omega, by omega⟩]; rfl
theorem V.iald {a n : Nat} {x v : Int} (ha : isI a n) (h : rd M a n x = some v) (hd : decode mi.2.1 pc = .ok (.iaload, 1)) (k : V E mi d (pc + 1) L (vi v :: stk) M Q) : V E mi d pc L (vi x :: rf E a :: stk) M Q := k.step (fun p e R s m args below meth c H locs ls Z hx hb ho hS hP hT hl k => by obtain ⟨hi, rfl⟩ := rd_some h; exact va_iald (f := fun k => Int32.ofInt (M a k)) hx hb hS.1 hP a 0 (by rw [hp_get E M ha.1, ha.2.2 E]) rfl (kk_in hi) hd k)
theorem V.zald {a n : Nat} {x v : Int} (ha : isZ a n) (h : rd M a n x = some v) (hd : decode mi.2.1 pc = .ok (.baload, 1)) (k : V E mi d (pc + 1) L (vi v :: stk) M Q) : V E mi d pc L (vi x :: rf E a :: stk) M Q := k.step (fun p e R s m args below meth c H locs ls Z hx hb ho hS hP hT hl k => by obtain ⟨hi, rfl⟩ := rd_some h; exact va_zald (f := fun k => Int32.ofInt (M a k)) hx hb hS.1 hP a 1 (by rw [hp_get E M ha.1, ha.2.2 E]) rfl (kk_in hi) hd k)
theorem V.lald {a n : Nat} {x v : Int} (ha : isJ a n) (h : rd M a n x = some v) (hd : decode mi.2.1 pc = .ok (.laload, 1)) (k : V E mi d (pc + 1) L (vl v :: stk) M Q) : V E mi d pc L (vi x :: rf E a :: stk) M Q := k.step (fun p e R s m args below meth c H locs ls Z hx hb ho hS hP hT hl k => by obtain ⟨hi, rfl⟩ := rd_some h; exact va_lald (f := fun k => Int64.ofInt (M a k)) hx hb hS.1 hP a 2 (by rw [hp_get E M ha.1, ha.2.2 E]) rfl (kk_in hi) hd k)
theorem kk_upd (r : Nat → Int) (k : Nat) (v : Int) : upd (fun k => Int32.ofInt (r k)) k (Int32.ofInt v) = fun j => Int32.ofInt (if j = k then v else r j) := by
  funext j; unfold upd; split <;> rfl
theorem kk_updL (r : Nat → Int) (k : Nat) (v : Int) : vp_updL (fun k => Int64.ofInt (r k)) k (Int64.ofInt v) = fun j => Int64.ofInt (if j = k then v else r j) := by
  funext j; unfold vp_updL; split <;> rfl
theorem V.iast {a n : Nat} {x v : Int} {M' : Mem} (ha : isI a n) (h : wt M a n x v = some M') (hd : decode mi.2.1 pc = .ok (.iastore, 1)) (k : V E mi d (pc + 1) L stk M' Q) : V E mi d pc L (vi v :: vi x :: rf E a :: stk) M Q := by
  intro p e R s m args below meth c H locs ls hx hb hr hml ho hk hR hS hP hT hl
  obtain ⟨hi, rfl⟩ := wt_some h
  refine va_iast hx hb hS.1 hP (hS.2.2.2.1 M) hT a 0 (by rw [hp_get E M ha.1, ha.2.2 E]) rfl (kk_in hi) hd (fun H locs hP1 _ hT => ?_)
  rw [show (Int32.ofInt x).toNatClampNeg = (wr x).toNat from rfl, kk_upd, ← ha.2.2 E, hp_set E M ha.1] at hP1
  exact k p e R s m args below meth c H locs ls hx hb hr hml ho hk hR hS hP1 hT hl
theorem V.zast {a n : Nat} {x v : Int} {M' : Mem} (ha : isZ a n) (hz : v = 0 ∨ v = 1) (h : wt M a n x v = some M') (hd : decode mi.2.1 pc = .ok (.bastore, 1)) (k : V E mi d (pc + 1) L stk M' Q) : V E mi d pc L (vi v :: vi x :: rf E a :: stk) M Q := by
  intro p e R s m args below meth c H locs ls hx hb hr hml ho hk hR hS hP hT hl
  obtain ⟨hi, rfl⟩ := wt_some h
  refine va_zast hx hb hS.1 hP (hS.2.2.2.1 M) hT a 1 (by rw [hp_get E M ha.1, ha.2.2 E]) rfl (kk_in hi) hd (fun H locs hP1 _ hT => ?_)
  rw [show vp_nar .boolean (Int32.ofInt v) = Int32.ofInt v by rcases hz with rfl | rfl <;> decide] at hP1
  rw [show (Int32.ofInt x).toNatClampNeg = (wr x).toNat from rfl, kk_upd, ← ha.2.2 E, hp_set E M ha.1] at hP1
  exact k p e R s m args below meth c H locs ls hx hb hr hml ho hk hR hS hP1 hT hl
theorem V.last {a n : Nat} {x v : Int} {M' : Mem} (ha : isJ a n) (h : wt M a n x v = some M') (hd : decode mi.2.1 pc = .ok (.lastore, 1)) (k : V E mi d (pc + 1) L stk M' Q) : V E mi d pc L (vl v :: vi x :: rf E a :: stk) M Q := by
  intro p e R s m args below meth c H locs ls hx hb hr hml ho hk hR hS hP hT hl
  obtain ⟨hi, rfl⟩ := wt_some h
  refine va_last hx hb hS.1 hP (hS.2.2.2.1 M) hT a 2 (by rw [hp_get E M ha.1, ha.2.2 E]) rfl (kk_in hi) hd (fun H locs hP1 _ hT => ?_)
  rw [show (Int32.ofInt x).toNatClampNeg = (wr x).toNat from rfl, kk_updL, ← ha.2.2 E, hp_set E M ha.1] at hP1
  exact k p e R s m args below meth c H locs ls hx hb hr hml ho hk hR hS hP1 hT hl
theorem V.aald {t a n : Nat} {f : Nat → Nat} {C : String} {x : Int} {j : Nat} (ha : isR t a n f) (ht : (tys E)[t]? = some (eC E t, .object C)) (hi : 0 ≤ wr x ∧ wr x < n) (hj : f (wr x).toNat = j) (hd : decode mi.2.1 pc = .ok (.aaload, 1)) (k : V E mi d (pc + 1) L (rf E j :: stk) M Q) : V E mi d pc L (vi x :: rf E a :: stk) M Q := k.step (fun p e R s m args below meth c H locs ls Z hx hb ho hS hP hT hl k => by subst hj; exact va_aldq (f := fun k => some (eA E (f k))) hx hb hS.1 hP a t (by rw [hp_get E M ha.1, ha.2.2 E]) ht (kk_in hi) hd k)
theorem V.aaldA {a n : Nat} {f : Nat → Nat} {x : Int} {j : Nat} (ha : isR 5 a n f) (hi : 0 ≤ wr x ∧ wr x < n) (hj : f (wr x).toNat = j) (hd : decode mi.2.1 pc = .ok (.aaload, 1)) (k : V E mi d (pc + 1) L (rf E j :: stk) M Q) : V E mi d pc L (vi x :: rf E a :: stk) M Q := k.step (fun p e R s m args below meth c H locs ls Z hx hb ho hS hP hT hl k => by
  subst hj
  have hin := kk_in hi
  have hlt : (Int32.ofInt x).toNatClampNeg < n := Nat.not_le.mp fun q => hin (Or.inr q)
  have hc : H[eA E a]? = some (vp_cell (eC E 5) (n, .inr (.inr (.inr (.inr (fun k => some (eA E (f k)))))))) := hP a (eA E a, .inl (eC E 5, n, .inr (.inr (.inr (.inr (fun k => some (eA E (f k)))))))) (by rw [hp_get E M ha.1, ha.2.2 E])
  exact W.aald (v := rf E (f (wr x).toNat)) (ty := .array .int) hx hb hc ((hS.1.2 5 _ rfl).1 n (fun j => va_rf (some (eA E (f j))))) rfl (fun q => by cases q) (by show ¬ (_ ∨ (arrV _ _ _).slots.size ≤ _); rw [arrV_size]; exact hin) (by show (arrV _ _ _).slots[_]? = _; rw [arrV_read _ _ hlt]; rfl) rfl rfl hd k)
theorem V.alen {a n : Nat} (ha : isI a n) (hd : decode mi.2.1 pc = .ok (.arraylength, 1)) (k : V E mi d (pc + 1) L (vi n :: stk) M Q) : V E mi d pc L (rf E a :: stk) M Q := k.step (fun p e R s m args below meth c H locs ls Z hx hb ho hS hP hT hl k => va_alen hx hb hS.1 hP a 0 (by rw [hp_get E M ha.1, ha.2.2 E]) rfl (Int32.ofInt_eq_ofNat (n := n)).symm hd k)
theorem kk_F {E : En} {s t : State} {H : Heap} {locs : List Loc} (hT : va_S (AA E) s.heap H locs) (ht : t.heap = H) : va_F (AA E) s t := hT.F ht
theorem V.iret {x : Int} (hr0 : mi.2.2.2 = some .int) (hd : decode mi.2.1 pc = .ok (.ireturn, 1)) (hq : Q (some (vi x)) M) : V E mi d pc L [vi x] M Q := by
  intro p e R s m args below meth c H locs ls hx hb hr hml ho hk hR hS hP hT hl
  exact W.iret hx hb (hr.trans hr0) (fun t ht _ => ⟨⟨_, M, rfl, hq, by rw [ht]; exact hP⟩, kk_F hT ht⟩) (fun q h => hT.2.2 q h) hd hk
theorem V.zret {x : Int} (hr0 : mi.2.2.2 = some .boolean) (hz : x = 0 ∨ x = 1) (hd : decode mi.2.1 pc = .ok (.ireturn, 1)) (hq : Q (some (vi x)) M) : V E mi d pc L [vi x] M Q := by
  intro p e R s m args below meth c H locs ls hx hb hr hml ho hk hR hS hP hT hl
  exact W.zret hx hb (hr.trans hr0) (by rcases hz with rfl | rfl <;> decide) (fun t ht _ => ⟨⟨_, M, rfl, hq, by rw [ht]; exact hP⟩, kk_F hT ht⟩) (fun q h => hT.2.2 q h) hd hk
theorem V.lret {x : Int} (hr0 : mi.2.2.2 = some .long) (hd : decode mi.2.1 pc = .ok (.lreturn, 1)) (hq : Q (some (vl x)) M) : V E mi d pc L [vl x] M Q := by
  intro p e R s m args below meth c H locs ls hx hb hr hml ho hk hR hS hP hT hl
  exact W.lret hx hb (hr.trans hr0) (fun t ht _ => ⟨⟨_, M, rfl, hq, by rw [ht]; exact hP⟩, kk_F hT ht⟩) (fun q h => hT.2.2 q h) hd hk
theorem V.vret (hr0 : mi.2.2.2 = none) (hd : decode mi.2.1 pc = .ok (.return_, 1)) (hq : Q none M) : V E mi d pc L [] M Q := by
  intro p e R s m args below meth c H locs ls hx hb hr hml ho hk hR hS hP hT hl
  exact W.vret hx hb (hr.trans hr0) (fun t ht _ => ⟨⟨_, M, rfl, hq, by rw [ht]; exact hP⟩, kk_F hT ht⟩) (fun q h => hT.2.2 q h) hd hk
theorem V.aret {j : Nat} {rt : FieldType} (hr0 : mi.2.2.2 = some rt) (hrt : (∃ n, rt = .object n) ∨ ∃ t, rt = .array t) (hd : decode mi.2.1 pc = .ok (.areturn, 1)) (hq : Q (some (rf E j)) M) : V E mi d pc L [rf E j] M Q := by
  intro p e R s m args below meth c H locs ls hx hb hr hml ho hk hR hS hP hT hl
  exact W.aret hx hb (hr.trans hr0) hrt (Or.inr ⟨_, rfl⟩) (fun t ht _ => ⟨⟨_, M, rfl, hq, by rw [ht]; exact hP⟩, kk_F hT ht⟩) (fun q h => hT.2.2 q h) hd hk
/-- what a call needs of the callee: that it is an instance method (a static one), its code, its parameters -/
def OKV (mi : MI) (n : Nat) : Prop := GW (.instanceMethod mi.1) ∧ GW (.selects mi.1.cls mi.1 mi.1) ∧ GW (.initialized mi.1.cls) ∧ GW (.code mi.1 mi.2.1 mi.2.2.1 mi.2.2.2) ∧ (mi.1.cls ≠ "java/lang/invoke/MethodHandle" ∧ mi.1.cls ≠ "java/lang/invoke/VarHandle" ∧ (parseMethodDescriptor mi.1.desc).map (fun d => d.parameters.length) = some n) ∧ mi.2.2.1 ≤ 40
def OKS (mi : MI) (n : Nat) : Prop := GW (.static mi.1) ∧ GW (.initialized mi.1.cls) ∧ GW (.code mi.1 mi.2.1 mi.2.2.1 mi.2.2.2) ∧ (mi.1.cls ≠ "java/lang/invoke/MethodHandle" ∧ mi.1.cls ≠ "java/lang/invoke/VarHandle" ∧ (parseMethodDescriptor mi.1.desc).map (fun d => d.parameters.length) = some n) ∧ mi.2.2.1 ≤ 40
theorem kk_good {ws : List Cond} (h : ∀ w ∈ ws, GW w) : GoodIn ws ws := fun w hw => ⟨hw, good_of_word (h w hw).2⟩
theorem kk_blind {E : En} {M : Mem} (av : List Value) : FrameBlind (va_Pc av (fun U => SF E U ∧ va_P (eD E) vwCl (hp E M) U.heap)) := by
  intro a U g mk h
  obtain ⟨h1, h2, h3⟩ := h
  exact ⟨h1, SF.moved (s := U) (State.WarmedH.refl U) (fun _ _ _ => rfl) h2, h3⟩
theorem kk_run {p : Program} {E : En} {e : Env} {R : Room} {s : State} {m : MethodId} {args : Array Value} {below : List Frame} {meth : Method} {c : Code} {H : Heap} {locs : List Loc} {Z : State → Prop} {pc : Nat} {ls : Array Slot} {st0 rest : List Value} {Q' : Po} {av : Array Value}
    (hr : va_Run p (eL E) e R s m args below meth c H locs 0 0 0 0 (F0 m pc ls st0) rest (Qc E Q' av) (AA E)) (hT : va_S (AA E) s.heap H locs)
    (kk : ∀ (r : Option Value) (M : Mem) (H1 : Heap) (locs1 : List Loc), Q' r M → va_P (eD E) vwCl (hp E M) H1 → va_S (AA E) s.heap H1 locs1 → W p (eL E) e R s m args below meth c H1 locs1 0 0 Z (F0 m (pc + 3) ls (r.toList ++ rest))) : W p (eL E) e R s m args below meth c H locs 0 0 Z (F0 m pc ls st0) := by
  intro T hT0 X
  obtain ⟨v, st₀, t, T', Lc, h0, X', hL, e1, e2, ⟨⟨r, M, hv, hq, hP⟩, hz, hk⟩, stp⟩ := hr T hT0 X
  cases hv
  rw [h0] at hz hk
  obtain ⟨t2, a1, b1⟩ := kk v M T'.heap (locs ++ Lc) hq (by rw [e1]; exact hP)
    ⟨Nat.le_trans hT.1 (by rw [e1]; exact hz), fun q h1 h2 => by rw [e1, hk q (Nat.lt_of_lt_of_le h1 hT.1) h2]; exact hT.2.1 q h1 h2, fun q hq => by
      rcases List.mem_append.mp hq with h | h
      · exact hT.2.2 q h
      · exact hL q h⟩ T' rfl X'
  exact ⟨t2, stp t2 a1, b1⟩
theorem V.callV {mi' : MI} {d' n idx ci j N : Nat} {C : String} {T : u_T} {fs : List Value} {Q' : Po} (As rest : List Value) {stk0 : List Value} (hM : Cn E mi' d' (rf E j :: As) M Q') (hok : OKV mi' n) (hlink : GW (.methodLink mi.1.cls idx mi'.1)) (hn : As.length = n) (hst : stk0 = As.reverse ++ rf E j :: rest) (hj : j < 60) (hc : cf E j (M j) = .inr (ci, fs)) (hcl : vwCl[ci]? = some (mi'.1.cls, T, N)) (hrest : (rest.map fun v => v.category).sum ≤ 8) (hdd : d' + 1 ≤ d) (hd : decode mi.2.1 pc = .ok (.invokevirtual idx, 3)) (k : ∀ (r : Option Value) (M' : Mem), Q' r M' → V E mi d (pc + 3) L (r.toList ++ rest) M' Q) : V E mi d pc L stk0 M Q := by
  intro p e R s m args below meth c H locs ls hx hb hr hml ho hk hR hS hP hT hl
  obtain ⟨o1, o2, o3, o4, o5, o6⟩ := hok
  let Ts : List Cond := wsV mi.1.cls idx mi'.1.cls mi'.1 [.code mi'.1 mi'.2.1 mi'.2.2.1 mi'.2.2.2]
  have hg : ∀ w ∈ Ts, GW w := by
    intro w hw
    simp only [Ts, wsV, List.cons_append, List.nil_append, List.mem_cons, List.not_mem_nil, or_false] at hw
    rcases hw with rfl | rfl | rfl | rfl | rfl
    · exact hlink
    · exact o1
    · exact o2
    · exact o3
    · exact o4
  have hts : ∀ w ∈ Ts, w.before args s = true := fun w h => hS.2.1 w (hg w h) _
  refine kk_run (va_runV (As := As) (rest := rest) (b := eA E j) (C := mi'.1.cls) (Ts := Ts) (n := n) (bytes := mi'.2.1) (maxL := mi'.2.2.1) (ret := mi'.2.2.2) ⟨hx, hb, hml, ho, hts⟩ hM (cwV n hts (kk_good hg) rfl rfl rfl ⟨rfl, o5⟩ ⟨by show d' + 1 ≤ _; omega, by show 8 + (_ + 11) + 60 * d' ≤ _; omega⟩) ⟨kk_blind _, va_recv hS.1 hP hcl (by rw [hp_get E M hj, hc]), fun U hU hW => ⟨rfl, SF.moved hW (fun q h1 h2 => by rw [hU]; exact hT.2.1 q h1 h2) hS, by rw [hU]; exact hP⟩⟩ rfl hn hl.1 hst (by show 2 * 0 + _ ≤ 8; omega) hd ⟨Nat.zero_le _, Nat.zero_le _⟩) hT (fun r M' H locs hq hP hT => k r M' hq p e R s m args below meth c H locs ls hx hb hr hml ho hk hR hS hP hT hl)
theorem V.callS {mi' : MI} {d' n idx : Nat} {Q' : Po} (As rest : List Value) {stk0 : List Value} (hM : Cn E mi' d' As M Q') (hok : OKS mi' n) (hlink : GW (.methodLink mi.1.cls idx mi'.1)) (hn : As.length = n) (hst : stk0 = As.reverse ++ rest) (hrest : (rest.map fun v => v.category).sum ≤ 8) (hdd : d' + 1 ≤ d) (hd : decode mi.2.1 pc = .ok (.invokestatic idx, 3)) (k : ∀ (r : Option Value) (M' : Mem), Q' r M' → V E mi d (pc + 3) L (r.toList ++ rest) M' Q) : V E mi d pc L stk0 M Q := by
  intro p e R s m args below meth c H locs ls hx hb hr hml ho hk hR hS hP hT hl
  obtain ⟨o1, o3, o4, o5, o6⟩ := hok
  let Ts : List Cond := va_wsS mi.1.cls idx mi'.1 [.code mi'.1 mi'.2.1 mi'.2.2.1 mi'.2.2.2]
  have hg : ∀ w ∈ Ts, GW w := by
    intro w hw
    simp only [Ts, va_wsS, List.cons_append, List.nil_append, List.mem_cons, List.not_mem_nil, or_false] at hw
    rcases hw with rfl | rfl | rfl | rfl
    · exact hlink
    · exact o1
    · exact o3
    · exact o4
  have hts : ∀ w ∈ Ts, w.before args s = true := fun w h => hS.2.1 w (hg w h) _
  refine kk_run (va_runS (As := As) (rest := rest) (Ts := Ts) (n := n) (bytes := mi'.2.1) (maxL := mi'.2.2.1) (ret := mi'.2.2.2) ⟨hx, hb, hml, ho, hts⟩ hM (va_cwS n hts (kk_good hg) rfl rfl rfl o5 ⟨by show d' + 1 ≤ _; omega, by show 8 + (_ + 11) + 60 * d' ≤ _; omega⟩) ⟨kk_blind _, fun U hU hW => ⟨rfl, SF.moved hW (fun q h1 h2 => by rw [hU]; exact hT.2.1 q h1 h2) hS, by rw [hU]; exact hP⟩⟩ rfl hn hl.1 hst (by show 2 * 0 + _ ≤ 8; omega) hd ⟨Nat.zero_le _, Nat.zero_le _⟩) hT (fun r M' H locs hq hP hT => k r M' hq p e R s m args below meth c H locs ls hx hb hr hml ho hk hR hS hP hT hl)
theorem V.callSN {mi' : MI} {d' n idx : Nat} {Q' : Po} {host : String} (As rest : List Value) {stk0 : List Value} (hM : Cn E mi' d' As M Q') (hok : OKS mi' n) (hlink : (mi.1.cls, idx, mi'.1, host) ∈ nwl) (hn : As.length = n) (hst : stk0 = As.reverse ++ rest) (hrest : (rest.map fun v => v.category).sum ≤ 8) (hdd : d' + 1 ≤ d) (hd : decode mi.2.1 pc = .ok (.invokestatic idx, 3)) (k : ∀ (r : Option Value) (M' : Mem), Q' r M' → V E mi d (pc + 3) L (r.toList ++ rest) M' Q) : V E mi d pc L stk0 M Q := by
  intro p e R s m args below meth c H locs ls hx hb hr hml ho hk hR hS hP hT hl
  obtain ⟨o1, o3, o4, o5, o6⟩ := hok
  let Ts : List Cond := [.code mi'.1 mi'.2.1 mi'.2.2.1 mi'.2.2.2]
  have hg : ∀ w ∈ Ts, GW w := by
    intro w hw
    simp only [Ts, List.mem_cons, List.not_mem_nil, or_false] at hw
    rw [hw]; exact o4
  have hts : ∀ w ∈ Ts, w.before args s = true := fun w h => hS.2.1 w (hg w h) _
  refine kk_run (va_runSN (As := As) (rest := rest) (Ts := Ts) (n := n) (bytes := mi'.2.1) (maxL := mi'.2.2.1) (ret := mi'.2.2.2) (host := host) ⟨hx, hb, hml, ho, hts⟩ hM ⟨va_cnB n hts (kk_good hg) rfl rfl rfl (hS.2.2.1 _ hlink) (hS.2.1 _ o3 _) o5 ⟨by show d' + 1 ≤ _; omega, by show 8 + (_ + 11) + 60 * d' ≤ _; omega⟩, hS.2.1 _ o1 _, trivial⟩ ⟨kk_blind _, fun U hU hW => ⟨rfl, SF.moved hW (fun q h1 h2 => by rw [hU]; exact hT.2.1 q h1 h2) hS, by rw [hU]; exact hP⟩⟩ rfl hn hl.1 hst (by show 2 * 0 + _ ≤ 8; omega) hd ⟨Nat.zero_le _, Nat.zero_le _⟩) hT (fun r M' H locs hq hP hT => k r M' hq p e R s m args below meth c H locs ls hx hb hr hml ho hk hR hS hP hT hl)
end VROWS
end
