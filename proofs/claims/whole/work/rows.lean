section
-- ===== PART A: goes FIRST, ahead of the names: the tables' words, and 'selects' of the private methods out of them =====
/-- a private method of a class that the tables say can be made, by its rows of tables_1 -/
def lw_okq (q : MethodName × Nat) : Prop := (q.1.cls ≠ "java/lang/invoke/MethodHandle" ∧ q.1.cls ≠ "java/lang/invoke/VarHandle") ∧ Cond.instantiable q.1.cls q.2 ∈ tables_1 ∧ Cond.privateMethod q.1 ∈ tables_1 ∧ Cond.instanceMethod q.1 ∈ tables_1
theorem lw_p0 : lw_okq (⟨"RowShutter$Tape", "advance", "()V"⟩, 7) := ⟨⟨by decide +kernel, by decide +kernel⟩, List.mem_of_getElem? (i := 99) (by decide +kernel), List.mem_of_getElem? (i := 201) (by decide +kernel), List.mem_of_getElem? (i := 202) (by decide +kernel)⟩
theorem lw_p1 : lw_okq (⟨"RowShutter$Tape", "takeAll", "(CC)V"⟩, 7) := ⟨⟨by decide +kernel, by decide +kernel⟩, List.mem_of_getElem? (i := 99) (by decide +kernel), List.mem_of_getElem? (i := 205) (by decide +kernel), List.mem_of_getElem? (i := 206) (by decide +kernel)⟩
theorem lw_p2 : lw_okq (⟨"RowShutter$Tape", "readLine", "(LRowShutter$Scene;)V"⟩, 7) := ⟨⟨by decide +kernel, by decide +kernel⟩, List.mem_of_getElem? (i := 99) (by decide +kernel), List.mem_of_getElem? (i := 209) (by decide +kernel), List.mem_of_getElem? (i := 210) (by decide +kernel)⟩
theorem lw_p3 : lw_okq (⟨"RowShutter$Tape", "lineBegun", "()I"⟩, 7) := ⟨⟨by decide +kernel, by decide +kernel⟩, List.mem_of_getElem? (i := 99) (by decide +kernel), List.mem_of_getElem? (i := 213) (by decide +kernel), List.mem_of_getElem? (i := 214) (by decide +kernel)⟩
theorem lw_p4 : lw_okq (⟨"RowShutter$Tape", "isCalled", "(Ljava/lang/String;)Z"⟩, 7) := ⟨⟨by decide +kernel, by decide +kernel⟩, List.mem_of_getElem? (i := 99) (by decide +kernel), List.mem_of_getElem? (i := 228) (by decide +kernel), List.mem_of_getElem? (i := 229) (by decide +kernel)⟩
theorem lw_p5 : lw_okq (⟨"RowShutter$Tape", "readLamp", "(LRowShutter$Scene;I)V"⟩, 7) := ⟨⟨by decide +kernel, by decide +kernel⟩, List.mem_of_getElem? (i := 99) (by decide +kernel), List.mem_of_getElem? (i := 280) (by decide +kernel), List.mem_of_getElem? (i := 281) (by decide +kernel)⟩
theorem lw_p6 : lw_okq (⟨"RowShutter$Tape", "readNumber", "(II)I"⟩, 7) := ⟨⟨by decide +kernel, by decide +kernel⟩, List.mem_of_getElem? (i := 99) (by decide +kernel), List.mem_of_getElem? (i := 288) (by decide +kernel), List.mem_of_getElem? (i := 289) (by decide +kernel)⟩
theorem lw_p7 : lw_okq (⟨"RowShutter$Lamp", "sumUp", "()V"⟩, 2) := ⟨⟨by decide +kernel, by decide +kernel⟩, List.mem_of_getElem? (i := 31) (by decide +kernel), List.mem_of_getElem? (i := 306) (by decide +kernel), List.mem_of_getElem? (i := 307) (by decide +kernel)⟩
theorem lw_p8 : lw_okq (⟨"RowShutter$Lamp", "givesAt", "(I)I"⟩, 2) := ⟨⟨by decide +kernel, by decide +kernel⟩, List.mem_of_getElem? (i := 31) (by decide +kernel), List.mem_of_getElem? (i := 310) (by decide +kernel), List.mem_of_getElem? (i := 311) (by decide +kernel)⟩
theorem lw_p9 : lw_okq (⟨"RowShutter$Tape", "readRule", "(LRowShutter$Scene;I)V"⟩, 7) := ⟨⟨by decide +kernel, by decide +kernel⟩, List.mem_of_getElem? (i := 99) (by decide +kernel), List.mem_of_getElem? (i := 314) (by decide +kernel), List.mem_of_getElem? (i := 315) (by decide +kernel)⟩
theorem lw_p10 : lw_okq (⟨"RowShutter$Scene", "lightIn", "(II)I"⟩, 11) := ⟨⟨by decide +kernel, by decide +kernel⟩, List.mem_of_getElem? (i := 24) (by decide +kernel), List.mem_of_getElem? (i := 343) (by decide +kernel), List.mem_of_getElem? (i := 344) (by decide +kernel)⟩
theorem lw_p11 : lw_okq (⟨"RowShutter", "bestPart", "(IIII)I"⟩, 8) := ⟨⟨by decide +kernel, by decide +kernel⟩, List.mem_of_getElem? (i := 16) (by decide +kernel), List.mem_of_getElem? (i := 470) (by decide +kernel), List.mem_of_getElem? (i := 471) (by decide +kernel)⟩
theorem lw_p12 : lw_okq (⟨"RowShutter", "draftSteadyLamps", "()V"⟩, 8) := ⟨⟨by decide +kernel, by decide +kernel⟩, List.mem_of_getElem? (i := 16) (by decide +kernel), List.mem_of_getElem? (i := 495) (by decide +kernel), List.mem_of_getElem? (i := 496) (by decide +kernel)⟩
theorem lw_p13 : lw_okq (⟨"RowShutter", "fitting", "(II)I"⟩, 8) := ⟨⟨by decide +kernel, by decide +kernel⟩, List.mem_of_getElem? (i := 16) (by decide +kernel), List.mem_of_getElem? (i := 523) (by decide +kernel), List.mem_of_getElem? (i := 524) (by decide +kernel)⟩
theorem lw_p14 : lw_okq (⟨"RowShutter", "mostAlike", "(IIII)I"⟩, 8) := ⟨⟨by decide +kernel, by decide +kernel⟩, List.mem_of_getElem? (i := 16) (by decide +kernel), List.mem_of_getElem? (i := 545) (by decide +kernel), List.mem_of_getElem? (i := 546) (by decide +kernel)⟩
theorem lw_p15 : lw_okq (⟨"RowShutter", "isPhaseOfLamp", "(LRowShutter$Sheet;I)Z"⟩, 8) := ⟨⟨by decide +kernel, by decide +kernel⟩, List.mem_of_getElem? (i := 16) (by decide +kernel), List.mem_of_getElem? (i := 594) (by decide +kernel), List.mem_of_getElem? (i := 595) (by decide +kernel)⟩
def lw_privs_1 : List (MethodName × Nat) := [(⟨"RowShutter$Tape", "advance", "()V"⟩, 7), (⟨"RowShutter$Tape", "takeAll", "(CC)V"⟩, 7), (⟨"RowShutter$Tape", "readLine", "(LRowShutter$Scene;)V"⟩, 7), (⟨"RowShutter$Tape", "lineBegun", "()I"⟩, 7), (⟨"RowShutter$Tape", "isCalled", "(Ljava/lang/String;)Z"⟩, 7), (⟨"RowShutter$Tape", "readLamp", "(LRowShutter$Scene;I)V"⟩, 7), (⟨"RowShutter$Tape", "readNumber", "(II)I"⟩, 7), (⟨"RowShutter$Lamp", "sumUp", "()V"⟩, 2), (⟨"RowShutter$Lamp", "givesAt", "(I)I"⟩, 2), (⟨"RowShutter$Tape", "readRule", "(LRowShutter$Scene;I)V"⟩, 7), (⟨"RowShutter$Scene", "lightIn", "(II)I"⟩, 11), (⟨"RowShutter", "bestPart", "(IIII)I"⟩, 8), (⟨"RowShutter", "draftSteadyLamps", "()V"⟩, 8), (⟨"RowShutter", "fitting", "(II)I"⟩, 8), (⟨"RowShutter", "mostAlike", "(IIII)I"⟩, 8), (⟨"RowShutter", "isPhaseOfLamp", "(LRowShutter$Sheet;I)Z"⟩, 8)]
theorem lw_r1 : ∀ q ∈ lw_privs_1, lw_okq q := List.forall_mem_cons.mpr ⟨lw_p0, List.forall_mem_cons.mpr ⟨lw_p1, List.forall_mem_cons.mpr ⟨lw_p2, List.forall_mem_cons.mpr ⟨lw_p3, List.forall_mem_cons.mpr ⟨lw_p4, List.forall_mem_cons.mpr ⟨lw_p5, List.forall_mem_cons.mpr ⟨lw_p6, List.forall_mem_cons.mpr ⟨lw_p7, List.forall_mem_cons.mpr ⟨lw_p8, List.forall_mem_cons.mpr ⟨lw_p9, List.forall_mem_cons.mpr ⟨lw_p10, List.forall_mem_cons.mpr ⟨lw_p11, List.forall_mem_cons.mpr ⟨lw_p12, List.forall_mem_cons.mpr ⟨lw_p13, List.forall_mem_cons.mpr ⟨lw_p14, List.forall_mem_cons.mpr ⟨lw_p15, fun _ h => absurd h List.not_mem_nil⟩⟩⟩⟩⟩⟩⟩⟩⟩⟩⟩⟩⟩⟩⟩⟩
theorem lw_p16 : lw_okq (⟨"RowShutter", "takePhases", "(LRowShutter$Sheet;II)V"⟩, 8) := ⟨⟨by decide +kernel, by decide +kernel⟩, List.mem_of_getElem? (i := 16) (by decide +kernel), List.mem_of_getElem? (i := 598) (by decide +kernel), List.mem_of_getElem? (i := 599) (by decide +kernel)⟩
theorem lw_p17 : lw_okq (⟨"RowShutterModel", "firstDraft", "()V"⟩, 34) := ⟨⟨by decide +kernel, by decide +kernel⟩, List.mem_of_getElem? (i := 614) (by decide +kernel), List.mem_of_getElem? (i := 620) (by decide +kernel), List.mem_of_getElem? (i := 621) (by decide +kernel)⟩
theorem lw_p18 : lw_okq (⟨"RowShutterModel", "keepDraft", "()V"⟩, 34) := ⟨⟨by decide +kernel, by decide +kernel⟩, List.mem_of_getElem? (i := 614) (by decide +kernel), List.mem_of_getElem? (i := 624) (by decide +kernel), List.mem_of_getElem? (i := 625) (by decide +kernel)⟩
theorem lw_p19 : lw_okq (⟨"RowShutterModel", "reads", "()V"⟩, 34) := ⟨⟨by decide +kernel, by decide +kernel⟩, List.mem_of_getElem? (i := 614) (by decide +kernel), List.mem_of_getElem? (i := 747) (by decide +kernel), List.mem_of_getElem? (i := 748) (by decide +kernel)⟩
theorem lw_p20 : lw_okq (⟨"RowShutterModel", "byteAt", "(I)I"⟩, 34) := ⟨⟨by decide +kernel, by decide +kernel⟩, List.mem_of_getElem? (i := 614) (by decide +kernel), List.mem_of_getElem? (i := 751) (by decide +kernel), List.mem_of_getElem? (i := 752) (by decide +kernel)⟩
theorem lw_p21 : lw_okq (⟨"RowShutterModel", "requires", "(ZI)V"⟩, 34) := ⟨⟨by decide +kernel, by decide +kernel⟩, List.mem_of_getElem? (i := 614) (by decide +kernel), List.mem_of_getElem? (i := 759) (by decide +kernel), List.mem_of_getElem? (i := 760) (by decide +kernel)⟩
theorem lw_p22 : lw_okq (⟨"RowShutterModel", "readLine", "()V"⟩, 34) := ⟨⟨by decide +kernel, by decide +kernel⟩, List.mem_of_getElem? (i := 614) (by decide +kernel), List.mem_of_getElem? (i := 763) (by decide +kernel), List.mem_of_getElem? (i := 764) (by decide +kernel)⟩
theorem lw_p23 : lw_okq (⟨"RowShutterModel", "lineNow", "()I"⟩, 34) := ⟨⟨by decide +kernel, by decide +kernel⟩, List.mem_of_getElem? (i := 614) (by decide +kernel), List.mem_of_getElem? (i := 767) (by decide +kernel), List.mem_of_getElem? (i := 768) (by decide +kernel)⟩
theorem lw_p24 : lw_okq (⟨"RowShutterModel", "is", "(IIII)Z"⟩, 34) := ⟨⟨by decide +kernel, by decide +kernel⟩, List.mem_of_getElem? (i := 614) (by decide +kernel), List.mem_of_getElem? (i := 771) (by decide +kernel), List.mem_of_getElem? (i := 772) (by decide +kernel)⟩
theorem lw_p25 : lw_okq (⟨"RowShutterModel", "endsIn", "(III)Z"⟩, 34) := ⟨⟨by decide +kernel, by decide +kernel⟩, List.mem_of_getElem? (i := 614) (by decide +kernel), List.mem_of_getElem? (i := 775) (by decide +kernel), List.mem_of_getElem? (i := 776) (by decide +kernel)⟩
theorem lw_p26 : lw_okq (⟨"RowShutterModel", "readLineOf", "(I)V"⟩, 34) := ⟨⟨by decide +kernel, by decide +kernel⟩, List.mem_of_getElem? (i := 614) (by decide +kernel), List.mem_of_getElem? (i := 779) (by decide +kernel), List.mem_of_getElem? (i := 780) (by decide +kernel)⟩
theorem lw_p27 : lw_okq (⟨"RowShutterModel", "readNumber", "(II)I"⟩, 34) := ⟨⟨by decide +kernel, by decide +kernel⟩, List.mem_of_getElem? (i := 614) (by decide +kernel), List.mem_of_getElem? (i := 789) (by decide +kernel), List.mem_of_getElem? (i := 790) (by decide +kernel)⟩
theorem lw_p28 : lw_okq (⟨"RowShutterModel", "starts", "()V"⟩, 34) := ⟨⟨by decide +kernel, by decide +kernel⟩, List.mem_of_getElem? (i := 614) (by decide +kernel), List.mem_of_getElem? (i := 807) (by decide +kernel), List.mem_of_getElem? (i := 808) (by decide +kernel)⟩
theorem lw_p29 : lw_okq (⟨"RowShutterModel", "shine", "(I)I"⟩, 34) := ⟨⟨by decide +kernel, by decide +kernel⟩, List.mem_of_getElem? (i := 614) (by decide +kernel), List.mem_of_getElem? (i := 811) (by decide +kernel), List.mem_of_getElem? (i := 812) (by decide +kernel)⟩
theorem lw_p30 : lw_okq (⟨"RowShutterModel", "of", "(II)I"⟩, 34) := ⟨⟨by decide +kernel, by decide +kernel⟩, List.mem_of_getElem? (i := 614) (by decide +kernel), List.mem_of_getElem? (i := 815) (by decide +kernel), List.mem_of_getElem? (i := 816) (by decide +kernel)⟩
theorem lw_p31 : lw_okq (⟨"RowShutterModel", "gives", "(II)I"⟩, 34) := ⟨⟨by decide +kernel, by decide +kernel⟩, List.mem_of_getElem? (i := 614) (by decide +kernel), List.mem_of_getElem? (i := 819) (by decide +kernel), List.mem_of_getElem? (i := 820) (by decide +kernel)⟩
def lw_privs_2 : List (MethodName × Nat) := [(⟨"RowShutter", "takePhases", "(LRowShutter$Sheet;II)V"⟩, 8), (⟨"RowShutterModel", "firstDraft", "()V"⟩, 34), (⟨"RowShutterModel", "keepDraft", "()V"⟩, 34), (⟨"RowShutterModel", "reads", "()V"⟩, 34), (⟨"RowShutterModel", "byteAt", "(I)I"⟩, 34), (⟨"RowShutterModel", "requires", "(ZI)V"⟩, 34), (⟨"RowShutterModel", "readLine", "()V"⟩, 34), (⟨"RowShutterModel", "lineNow", "()I"⟩, 34), (⟨"RowShutterModel", "is", "(IIII)Z"⟩, 34), (⟨"RowShutterModel", "endsIn", "(III)Z"⟩, 34), (⟨"RowShutterModel", "readLineOf", "(I)V"⟩, 34), (⟨"RowShutterModel", "readNumber", "(II)I"⟩, 34), (⟨"RowShutterModel", "starts", "()V"⟩, 34), (⟨"RowShutterModel", "shine", "(I)I"⟩, 34), (⟨"RowShutterModel", "of", "(II)I"⟩, 34), (⟨"RowShutterModel", "gives", "(II)I"⟩, 34)]
theorem lw_r2 : ∀ q ∈ lw_privs_2, lw_okq q := List.forall_mem_cons.mpr ⟨lw_p16, List.forall_mem_cons.mpr ⟨lw_p17, List.forall_mem_cons.mpr ⟨lw_p18, List.forall_mem_cons.mpr ⟨lw_p19, List.forall_mem_cons.mpr ⟨lw_p20, List.forall_mem_cons.mpr ⟨lw_p21, List.forall_mem_cons.mpr ⟨lw_p22, List.forall_mem_cons.mpr ⟨lw_p23, List.forall_mem_cons.mpr ⟨lw_p24, List.forall_mem_cons.mpr ⟨lw_p25, List.forall_mem_cons.mpr ⟨lw_p26, List.forall_mem_cons.mpr ⟨lw_p27, List.forall_mem_cons.mpr ⟨lw_p28, List.forall_mem_cons.mpr ⟨lw_p29, List.forall_mem_cons.mpr ⟨lw_p30, List.forall_mem_cons.mpr ⟨lw_p31, fun _ h => absurd h List.not_mem_nil⟩⟩⟩⟩⟩⟩⟩⟩⟩⟩⟩⟩⟩⟩⟩⟩
theorem lw_p32 : lw_okq (⟨"RowShutterModel", "isLamp", "(I)Z"⟩, 34) := ⟨⟨by decide +kernel, by decide +kernel⟩, List.mem_of_getElem? (i := 614) (by decide +kernel), List.mem_of_getElem? (i := 827) (by decide +kernel), List.mem_of_getElem? (i := 828) (by decide +kernel)⟩
theorem lw_p33 : lw_okq (⟨"RowShutterModel", "becomes", "(II)I"⟩, 34) := ⟨⟨by decide +kernel, by decide +kernel⟩, List.mem_of_getElem? (i := 614) (by decide +kernel), List.mem_of_getElem? (i := 845) (by decide +kernel), List.mem_of_getElem? (i := 846) (by decide +kernel)⟩
theorem lw_p34 : lw_okq (⟨"RowShutterModel", "shotsGo", "(I)V"⟩, 34) := ⟨⟨by decide +kernel, by decide +kernel⟩, List.mem_of_getElem? (i := 614) (by decide +kernel), List.mem_of_getElem? (i := 877) (by decide +kernel), List.mem_of_getElem? (i := 878) (by decide +kernel)⟩
theorem lw_p35 : lw_okq (⟨"RowShutterModel", "shotGoes", "()V"⟩, 34) := ⟨⟨by decide +kernel, by decide +kernel⟩, List.mem_of_getElem? (i := 614) (by decide +kernel), List.mem_of_getElem? (i := 881) (by decide +kernel), List.mem_of_getElem? (i := 882) (by decide +kernel)⟩
theorem lw_p36 : lw_okq (⟨"RowShutterModel", "rowAt", "(I)I"⟩, 34) := ⟨⟨by decide +kernel, by decide +kernel⟩, List.mem_of_getElem? (i := 614) (by decide +kernel), List.mem_of_getElem? (i := 885) (by decide +kernel), List.mem_of_getElem? (i := 886) (by decide +kernel)⟩
theorem lw_p37 : lw_okq (⟨"RowShutterModel", "settles", "()V"⟩, 34) := ⟨⟨by decide +kernel, by decide +kernel⟩, List.mem_of_getElem? (i := 614) (by decide +kernel), List.mem_of_getElem? (i := 892) (by decide +kernel), List.mem_of_getElem? (i := 893) (by decide +kernel)⟩
theorem lw_p38 : lw_okq (⟨"RowShutterModel", "bestOf", "(IIIII)I"⟩, 34) := ⟨⟨by decide +kernel, by decide +kernel⟩, List.mem_of_getElem? (i := 614) (by decide +kernel), List.mem_of_getElem? (i := 920) (by decide +kernel), List.mem_of_getElem? (i := 921) (by decide +kernel)⟩
theorem lw_p39 : lw_okq (⟨"RowShutterModel", "startsJudging", "(I)V"⟩, 34) := ⟨⟨by decide +kernel, by decide +kernel⟩, List.mem_of_getElem? (i := 614) (by decide +kernel), List.mem_of_getElem? (i := 925) (by decide +kernel), List.mem_of_getElem? (i := 926) (by decide +kernel)⟩
theorem lw_p40 : lw_okq (⟨"RowShutterModel", "judges", "(II)V"⟩, 34) := ⟨⟨by decide +kernel, by decide +kernel⟩, List.mem_of_getElem? (i := 614) (by decide +kernel), List.mem_of_getElem? (i := 929) (by decide +kernel), List.mem_of_getElem? (i := 930) (by decide +kernel)⟩
theorem lw_p41 : lw_okq (⟨"RowShutterModel", "judged", "(I)I"⟩, 34) := ⟨⟨by decide +kernel, by decide +kernel⟩, List.mem_of_getElem? (i := 614) (by decide +kernel), List.mem_of_getElem? (i := 933) (by decide +kernel), List.mem_of_getElem? (i := 934) (by decide +kernel)⟩
theorem lw_p42 : lw_okq (⟨"RowShutterModel", "findOdds", "(III)V"⟩, 34) := ⟨⟨by decide +kernel, by decide +kernel⟩, List.mem_of_getElem? (i := 614) (by decide +kernel), List.mem_of_getElem? (i := 956) (by decide +kernel), List.mem_of_getElem? (i := 957) (by decide +kernel)⟩
theorem lw_p43 : lw_okq (⟨"RowShutterModel", "which", "(II)I"⟩, 34) := ⟨⟨by decide +kernel, by decide +kernel⟩, List.mem_of_getElem? (i := 614) (by decide +kernel), List.mem_of_getElem? (i := 983) (by decide +kernel), List.mem_of_getElem? (i := 984) (by decide +kernel)⟩
theorem lw_p44 : lw_okq (⟨"RowShutterModel", "isSoWith", "(II)Z"⟩, 34) := ⟨⟨by decide +kernel, by decide +kernel⟩, List.mem_of_getElem? (i := 614) (by decide +kernel), List.mem_of_getElem? (i := 987) (by decide +kernel), List.mem_of_getElem? (i := 988) (by decide +kernel)⟩
theorem lw_p45 : lw_okq (⟨"RowShutterModel", "copies", "(II)V"⟩, 34) := ⟨⟨by decide +kernel, by decide +kernel⟩, List.mem_of_getElem? (i := 614) (by decide +kernel), List.mem_of_getElem? (i := 1008) (by decide +kernel), List.mem_of_getElem? (i := 1009) (by decide +kernel)⟩
theorem lw_p46 : lw_okq (⟨"RowShutterModel", "sumOf", "(I)I"⟩, 34) := ⟨⟨by decide +kernel, by decide +kernel⟩, List.mem_of_getElem? (i := 614) (by decide +kernel), List.mem_of_getElem? (i := 1041) (by decide +kernel), List.mem_of_getElem? (i := 1042) (by decide +kernel)⟩
def lw_privs_3 : List (MethodName × Nat) := [(⟨"RowShutterModel", "isLamp", "(I)Z"⟩, 34), (⟨"RowShutterModel", "becomes", "(II)I"⟩, 34), (⟨"RowShutterModel", "shotsGo", "(I)V"⟩, 34), (⟨"RowShutterModel", "shotGoes", "()V"⟩, 34), (⟨"RowShutterModel", "rowAt", "(I)I"⟩, 34), (⟨"RowShutterModel", "settles", "()V"⟩, 34), (⟨"RowShutterModel", "bestOf", "(IIIII)I"⟩, 34), (⟨"RowShutterModel", "startsJudging", "(I)V"⟩, 34), (⟨"RowShutterModel", "judges", "(II)V"⟩, 34), (⟨"RowShutterModel", "judged", "(I)I"⟩, 34), (⟨"RowShutterModel", "findOdds", "(III)V"⟩, 34), (⟨"RowShutterModel", "which", "(II)I"⟩, 34), (⟨"RowShutterModel", "isSoWith", "(II)Z"⟩, 34), (⟨"RowShutterModel", "copies", "(II)V"⟩, 34), (⟨"RowShutterModel", "sumOf", "(I)I"⟩, 34)]
theorem lw_r3 : ∀ q ∈ lw_privs_3, lw_okq q := List.forall_mem_cons.mpr ⟨lw_p32, List.forall_mem_cons.mpr ⟨lw_p33, List.forall_mem_cons.mpr ⟨lw_p34, List.forall_mem_cons.mpr ⟨lw_p35, List.forall_mem_cons.mpr ⟨lw_p36, List.forall_mem_cons.mpr ⟨lw_p37, List.forall_mem_cons.mpr ⟨lw_p38, List.forall_mem_cons.mpr ⟨lw_p39, List.forall_mem_cons.mpr ⟨lw_p40, List.forall_mem_cons.mpr ⟨lw_p41, List.forall_mem_cons.mpr ⟨lw_p42, List.forall_mem_cons.mpr ⟨lw_p43, List.forall_mem_cons.mpr ⟨lw_p44, List.forall_mem_cons.mpr ⟨lw_p45, List.forall_mem_cons.mpr ⟨lw_p46, fun _ h => absurd h List.not_mem_nil⟩⟩⟩⟩⟩⟩⟩⟩⟩⟩⟩⟩⟩⟩⟩
def lw_privs : List (MethodName × Nat) := lw_privs_1 ++ (lw_privs_2 ++ (lw_privs_3))
def lw_tbl : List Cond := k2_sels lw_privs ++ tables_1
theorem lw_privs_ok : ∀ q ∈ lw_privs, lw_okq q := by
  show ∀ q ∈ lw_privs_1 ++ (lw_privs_2 ++ (lw_privs_3)), lw_okq q
  exact List.forall_mem_append.mpr ⟨lw_r1, List.forall_mem_append.mpr ⟨lw_r2, lw_r3⟩⟩
def RX0 : String := "RowShutter$Lamp"
def TX0 : u_T := fun k => match k with
  | 0 => ("RowShutter$Lamp", "parts", "[I", true)
  | _ => ("RowShutter$Lamp", "sums", "[I", true)
def tyX0 : Nat → FieldType := fun k => match k with
  | 0 => .array .int
  | _ => .array .int
abbrev wsX00 : List Cond := u_ws RX0 TX0 2
theorem nmX0 : ∀ a, a < 2 → ∀ b, b < 2 → a ≠ b → (TX0 a).2.1 ≠ (TX0 b).2.1 := by decide +kernel
theorem tyX0_ok : ∀ k, k < 2 → parseFieldDescriptor (TX0 k).2.2.1 = some (tyX0 k) := by decide +kernel
abbrev cX0_init : ByteArray := prog_2_method_1_code
def yX0_init : MethodName := ⟨RX0, "<init>", "()V"⟩
abbrev cX0_copyFrom : ByteArray := prog_2_method_2_code
def yX0_copyFrom : MethodName := ⟨RX0, "copyFrom", "(LRowShutter$Lamp;)V"⟩
abbrev cX0_become : ByteArray := prog_2_method_3_code
def yX0_become : MethodName := ⟨RX0, "become", "(II)V"⟩
abbrev cX0_putOut : ByteArray := prog_2_method_4_code
def yX0_putOut : MethodName := ⟨RX0, "putOut", "()V"⟩
abbrev cX0_gives : ByteArray := prog_2_method_5_code
def yX0_gives : MethodName := ⟨RX0, "gives", "(II)I"⟩
abbrev cX0_sumUp : ByteArray := prog_2_method_6_code
def yX0_sumUp : MethodName := ⟨RX0, "sumUp", "()V"⟩
abbrev cX0_givesAt : ByteArray := prog_2_method_7_code
def yX0_givesAt : MethodName := ⟨RX0, "givesAt", "(I)I"⟩
def RX1 : String := "RowShutter$Scene"
def TX1 : u_T := fun k => match k with
  | 0 => ("RowShutter$Scene", "lamps", "[LRowShutter$Lamp;", true)
  | 1 => ("RowShutter$Scene", "lampCount", "I", false)
  | 2 => ("RowShutter$Scene", "rules", "[I", true)
  | 3 => ("RowShutter$Scene", "tick", "I", false)
  | 4 => ("RowShutter$Scene", "shots", "I", false)
  | 5 => ("RowShutter$Scene", "latest", "[I", true)
  | 6 => ("RowShutter$Scene", "latestRows", "I", false)
  | 7 => ("RowShutter$Scene", "seenShot", "[I", true)
  | 8 => ("RowShutter$Scene", "seenRow", "[I", true)
  | 9 => ("RowShutter$Scene", "seenBright", "[I", true)
  | _ => ("RowShutter$Scene", "seenCount", "I", false)
def tyX1 : Nat → FieldType := fun k => match k with
  | 0 => .array (.object "RowShutter$Lamp")
  | 1 => .int
  | 2 => .array .int
  | 3 => .int
  | 4 => .int
  | 5 => .array .int
  | 6 => .int
  | 7 => .array .int
  | 8 => .array .int
  | 9 => .array .int
  | _ => .int
abbrev wsX10 : List Cond := u_ws RX1 TX1 11
theorem nmX1 : ∀ a, a < 11 → ∀ b, b < 11 → a ≠ b → (TX1 a).2.1 ≠ (TX1 b).2.1 := by decide +kernel
theorem tyX1_ok : ∀ k, k < 11 → parseFieldDescriptor (TX1 k).2.2.1 = some (tyX1 k) := by decide +kernel
abbrev cX1_init : ByteArray := prog_3_method_1_code
def yX1_init : MethodName := ⟨RX1, "<init>", "()V"⟩
abbrev cX1_clear : ByteArray := prog_3_method_2_code
def yX1_clear : MethodName := ⟨RX1, "clear", "()V"⟩
abbrev cX1_copyFrom : ByteArray := prog_3_method_3_code
def yX1_copyFrom : MethodName := ⟨RX1, "copyFrom", "(LRowShutter$Scene;)V"⟩
abbrev cX1_lampAt : ByteArray := prog_3_method_4_code
def yX1_lampAt : MethodName := ⟨RX1, "lampAt", "(I)LRowShutter$Lamp;"⟩
abbrev cX1_addLamp : ByteArray := prog_3_method_5_code
def yX1_addLamp : MethodName := ⟨RX1, "addLamp", "(IIII)Z"⟩
abbrev cX1_addSeen : ByteArray := prog_3_method_6_code
def yX1_addSeen : MethodName := ⟨RX1, "addSeen", "(III)Z"⟩
abbrev cX1_sumOfPart : ByteArray := prog_3_method_7_code
def yX1_sumOfPart : MethodName := ⟨RX1, "sumOfPart", "(I)I"⟩
abbrev cX1_shine : ByteArray := prog_3_method_8_code
def yX1_shine : MethodName := ⟨RX1, "shine", "()I"⟩
abbrev cX1_lightIn : ByteArray := prog_3_method_9_code
def yX1_lightIn : MethodName := ⟨RX1, "lightIn", "(II)I"⟩
abbrev cX1_startOf : ByteArray := prog_3_method_10_code
def yX1_startOf : MethodName := ⟨RX1, "startOf", "(I)I"⟩
abbrev cX1_bright : ByteArray := prog_3_method_11_code
def yX1_bright : MethodName := ⟨RX1, "bright", "(II)I"⟩
abbrev cX1_bands : ByteArray := prog_3_method_12_code
def yX1_bands : MethodName := ⟨RX1, "bands", "(I)I"⟩
abbrev cX1_lightOf : ByteArray := prog_3_method_13_code
def yX1_lightOf : MethodName := ⟨RX1, "lightOf", "(I)I"⟩
abbrev cX1_isLikeFirst : ByteArray := prog_3_method_14_code
def yX1_isLikeFirst : MethodName := ⟨RX1, "isLikeFirst", "(I)Z"⟩
abbrev cX1_greatestBands : ByteArray := prog_3_method_15_code
def yX1_greatestBands : MethodName := ⟨RX1, "greatestBands", "(I)I"⟩
abbrev cX1_leastBands : ByteArray := prog_3_method_16_code
def yX1_leastBands : MethodName := ⟨RX1, "leastBands", "(I)I"⟩
abbrev cX1_lightOfShots : ByteArray := prog_3_method_17_code
def yX1_lightOfShots : MethodName := ⟨RX1, "lightOfShots", "(I)I"⟩
abbrev cX1_fullRows : ByteArray := prog_3_method_18_code
def yX1_fullRows : MethodName := ⟨RX1, "fullRows", "(I)I"⟩
abbrev cX1_take : ByteArray := prog_3_method_19_code
def yX1_take : MethodName := ⟨RX1, "take", "(I)V"⟩
abbrev cX1_isAsSeen : ByteArray := prog_3_method_20_code
def yX1_isAsSeen : MethodName := ⟨RX1, "isAsSeen", "()Z"⟩
def RX2 : String := "RowShutter$Sheet"
def TX2 : u_T := fun k => match k with
  | 0 => ("RowShutter$Sheet", "cells", "[I", true)
  | 1 => ("RowShutter$Sheet", "lane", "I", false)
  | _ => ("RowShutter$Sheet", "size", "I", false)
def tyX2 : Nat → FieldType := fun k => match k with
  | 0 => .array .int
  | 1 => .int
  | _ => .int
abbrev wsX20 : List Cond := u_ws RX2 TX2 3
theorem nmX2 : ∀ a, a < 3 → ∀ b, b < 3 → a ≠ b → (TX2 a).2.1 ≠ (TX2 b).2.1 := by decide +kernel
theorem tyX2_ok : ∀ k, k < 3 → parseFieldDescriptor (TX2 k).2.2.1 = some (tyX2 k) := by decide +kernel
abbrev cX2_init : ByteArray := prog_4_method_1_code
def yX2_init : MethodName := ⟨RX2, "<init>", "()V"⟩
abbrev cX2_renew : ByteArray := prog_4_method_2_code
def yX2_renew : MethodName := ⟨RX2, "renew", "(II)V"⟩
abbrev cX2_faultAt : ByteArray := prog_4_method_3_code
def yX2_faultAt : MethodName := ⟨RX2, "faultAt", "(I)I"⟩
abbrev cX2_faultOfPair : ByteArray := prog_4_method_4_code
def yX2_faultOfPair : MethodName := ⟨RX2, "faultOfPair", "(II)I"⟩
abbrev cX2_store : ByteArray := prog_4_method_5_code
def yX2_store : MethodName := ⟨RX2, "store", "(II)V"⟩
def RX3 : String := "RowShutter$Tape"
def TX3 : u_T := fun k => match k with
  | 0 => ("RowShutter$Tape", "bytes", "[B", true)
  | 1 => ("RowShutter$Tape", "length", "I", false)
  | 2 => ("RowShutter$Tape", "token", "I", false)
  | 3 => ("RowShutter$Tape", "start", "I", false)
  | 4 => ("RowShutter$Tape", "at", "I", false)
  | 5 => ("RowShutter$Tape", "toldRules", "I", false)
  | _ => ("RowShutter$Tape", "fault", "I", false)
def tyX3 : Nat → FieldType := fun k => match k with
  | 0 => .array .byte
  | 1 => .int
  | 2 => .int
  | 3 => .int
  | 4 => .int
  | 5 => .int
  | _ => .int
abbrev wsX30 : List Cond := u_ws RX3 TX3 7
theorem nmX3 : ∀ a, a < 7 → ∀ b, b < 7 → a ≠ b → (TX3 a).2.1 ≠ (TX3 b).2.1 := by decide +kernel
theorem tyX3_ok : ∀ k, k < 7 → parseFieldDescriptor (TX3 k).2.2.1 = some (tyX3 k) := by decide +kernel
abbrev cX3_init : ByteArray := prog_5_method_1_code
def yX3_init : MethodName := ⟨RX3, "<init>", "()V"⟩
abbrev cX3_append : ByteArray := prog_5_method_2_code
def yX3_append : MethodName := ⟨RX3, "append", "(I)Z"⟩
abbrev cX3_readInto : ByteArray := prog_5_method_3_code
def yX3_readInto : MethodName := ⟨RX3, "readInto", "(LRowShutter$Scene;)I"⟩
abbrev cX3_readLine : ByteArray := prog_5_method_4_code
def yX3_readLine : MethodName := ⟨RX3, "readLine", "(LRowShutter$Scene;)V"⟩
abbrev cX3_readLamp : ByteArray := prog_5_method_5_code
def yX3_readLamp : MethodName := ⟨RX3, "readLamp", "(LRowShutter$Scene;I)V"⟩
abbrev cX3_readRule : ByteArray := prog_5_method_6_code
def yX3_readRule : MethodName := ⟨RX3, "readRule", "(LRowShutter$Scene;I)V"⟩
abbrev cX3_readNumber : ByteArray := prog_5_method_7_code
def yX3_readNumber : MethodName := ⟨RX3, "readNumber", "(II)I"⟩
abbrev cX3_advance : ByteArray := prog_5_method_8_code
def yX3_advance : MethodName := ⟨RX3, "advance", "()V"⟩
abbrev cX3_takeAll : ByteArray := prog_5_method_9_code
def yX3_takeAll : MethodName := ⟨RX3, "takeAll", "(CC)V"⟩
abbrev cX3_lineBegun : ByteArray := prog_5_method_10_code
def yX3_lineBegun : MethodName := ⟨RX3, "lineBegun", "()I"⟩
abbrev cX3_isCalled : ByteArray := prog_5_method_11_code
def yX3_isCalled : MethodName := ⟨RX3, "isCalled", "(Ljava/lang/String;)Z"⟩
abbrev cX3_nameOf : ByteArray := prog_5_method_12_code
def yX3_nameOf : MethodName := ⟨RX3, "nameOf", "(I)Ljava/lang/String;"⟩
def RX4 : String := "RowShutter"
def TX4 : u_T := fun k => match k with
  | 0 => ("RowShutter", "now", "LRowShutter$Scene;", true)
  | 1 => ("RowShutter", "draft", "LRowShutter$Scene;", true)
  | 2 => ("RowShutter", "images", "[LRowShutter$Scene;", true)
  | 3 => ("RowShutter", "kept", "[Z", true)
  | 4 => ("RowShutter", "sheets", "[LRowShutter$Sheet;", true)
  | 5 => ("RowShutter", "tape", "LRowShutter$Tape;", true)
  | 6 => ("RowShutter", "brights", "[I", true)
  | _ => ("RowShutter", "tornBy", "I", false)
def tyX4 : Nat → FieldType := fun k => match k with
  | 0 => .object "RowShutter$Scene"
  | 1 => .object "RowShutter$Scene"
  | 2 => .array (.object "RowShutter$Scene")
  | 3 => .array .boolean
  | 4 => .array (.object "RowShutter$Sheet")
  | 5 => .object "RowShutter$Tape"
  | 6 => .array .int
  | _ => .int
abbrev wsX40 : List Cond := u_ws RX4 TX4 8
theorem nmX4 : ∀ a, a < 8 → ∀ b, b < 8 → a ≠ b → (TX4 a).2.1 ≠ (TX4 b).2.1 := by decide +kernel
theorem tyX4_ok : ∀ k, k < 8 → parseFieldDescriptor (TX4 k).2.2.1 = some (tyX4 k) := by decide +kernel
abbrev cX4_init : ByteArray := prog_1_method_1_code
def yX4_init : MethodName := ⟨RX4, "<init>", "()V"⟩
abbrev cX4_feed : ByteArray := prog_1_method_2_code
def yX4_feed : MethodName := ⟨RX4, "feed", "(I)I"⟩
abbrev cX4_end : ByteArray := prog_1_method_3_code
def yX4_end : MethodName := ⟨RX4, "end", "(I)I"⟩
abbrev cX4_text : ByteArray := prog_1_method_4_code
def yX4_text : MethodName := ⟨RX4, "text", "()I"⟩
abbrev cX4_fault : ByteArray := prog_1_method_5_code
def yX4_fault : MethodName := ⟨RX4, "fault", "()I"⟩
abbrev cX4_rule : ByteArray := prog_1_method_6_code
def yX4_rule : MethodName := ⟨RX4, "rule", "(I)I"⟩
abbrev cX4_lamp : ByteArray := prog_1_method_7_code
def yX4_lamp : MethodName := ⟨RX4, "lamp", "(II)I"⟩
abbrev cX4_row : ByteArray := prog_1_method_8_code
def yX4_row : MethodName := ⟨RX4, "row", "(I)I"⟩
abbrev cX4_alter : ByteArray := prog_1_method_9_code
def yX4_alter : MethodName := ⟨RX4, "alter", "(III)I"⟩
abbrev cX4_tell : ByteArray := prog_1_method_10_code
def yX4_tell : MethodName := ⟨RX4, "tell", "(II)I"⟩
abbrev cX4_put : ByteArray := prog_1_method_11_code
def yX4_put : MethodName := ⟨RX4, "put", "(III)I"⟩
abbrev cX4_cut : ByteArray := prog_1_method_12_code
def yX4_cut : MethodName := ⟨RX4, "cut", "(I)I"⟩
abbrev cX4_rest : ByteArray := prog_1_method_13_code
def yX4_rest : MethodName := ⟨RX4, "rest", "(I)I"⟩
abbrev cX4_shoot : ByteArray := prog_1_method_14_code
def yX4_shoot : MethodName := ⟨RX4, "shoot", "(I)I"⟩
abbrev cX4_runs : ByteArray := prog_1_method_15_code
def yX4_runs : MethodName := ⟨RX4, "runs", "(II)I"⟩
abbrev cX4_ahead : ByteArray := prog_1_method_16_code
def yX4_ahead : MethodName := ⟨RX4, "ahead", "(II)I"⟩
abbrev cX4_when : ByteArray := prog_1_method_17_code
def yX4_when : MethodName := ⟨RX4, "when", "(I)I"⟩
abbrev cX4_again : ByteArray := prog_1_method_18_code
def yX4_again : MethodName := ⟨RX4, "again", "()I"⟩
abbrev cX4_best : ByteArray := prog_1_method_19_code
def yX4_best : MethodName := ⟨RX4, "best", "(III)I"⟩
abbrev cX4_kind : ByteArray := prog_1_method_20_code
def yX4_kind : MethodName := ⟨RX4, "kind", "(III)I"⟩
abbrev cX4_phase : ByteArray := prog_1_method_21_code
def yX4_phase : MethodName := ⟨RX4, "phase", "(III)I"⟩
abbrev cX4_out : ByteArray := prog_1_method_22_code
def yX4_out : MethodName := ⟨RX4, "out", "(II)I"⟩
abbrev cX4_luck : ByteArray := prog_1_method_23_code
def yX4_luck : MethodName := ⟨RX4, "luck", "(IIII)J"⟩
abbrev cX4_mean : ByteArray := prog_1_method_24_code
def yX4_mean : MethodName := ⟨RX4, "mean", "(III)J"⟩
abbrev cX4_see : ByteArray := prog_1_method_25_code
def yX4_see : MethodName := ⟨RX4, "see", "(III)I"⟩
abbrev cX4_forget : ByteArray := prog_1_method_26_code
def yX4_forget : MethodName := ⟨RX4, "forget", "(I)I"⟩
abbrev cX4_kinds : ByteArray := prog_1_method_27_code
def yX4_kinds : MethodName := ⟨RX4, "kinds", "(I)I"⟩
abbrev cX4_phases : ByteArray := prog_1_method_28_code
def yX4_phases : MethodName := ⟨RX4, "phases", "(I)I"⟩
abbrev cX4_ask : ByteArray := prog_1_method_29_code
def yX4_ask : MethodName := ⟨RX4, "ask", "(II)I"⟩
abbrev cX4_drift : ByteArray := prog_1_method_30_code
def yX4_drift : MethodName := ⟨RX4, "drift", "(III)I"⟩
abbrev cX4_keep : ByteArray := prog_1_method_31_code
def yX4_keep : MethodName := ⟨RX4, "keep", "(I)I"⟩
abbrev cX4_back : ByteArray := prog_1_method_32_code
def yX4_back : MethodName := ⟨RX4, "back", "(I)I"⟩
abbrev cX4_sheet : ByteArray := prog_1_method_33_code
def yX4_sheet : MethodName := ⟨RX4, "sheet", "(III)I"⟩
abbrev cX4_lay : ByteArray := prog_1_method_34_code
def yX4_lay : MethodName := ⟨RX4, "lay", "(III)I"⟩
abbrev cX4_read : ByteArray := prog_1_method_35_code
def yX4_read : MethodName := ⟨RX4, "read", "(IIII)I"⟩
abbrev cX4_torn : ByteArray := prog_1_method_36_code
def yX4_torn : MethodName := ⟨RX4, "torn", "()I"⟩
abbrev cX4_count : ByteArray := prog_1_method_37_code
def yX4_count : MethodName := ⟨RX4, "count", "(I)I"⟩
abbrev cX4_outside : ByteArray := prog_1_method_38_code
def yX4_outside : MethodName := ⟨RX4, "outside", "(III)Z"⟩
abbrev cX4_isPart : ByteArray := prog_1_method_39_code
def yX4_isPart : MethodName := ⟨RX4, "isPart", "(II)Z"⟩
abbrev cX4_isRule : ByteArray := prog_1_method_40_code
def yX4_isRule : MethodName := ⟨RX4, "isRule", "(II)Z"⟩
abbrev cX4_bestPart : ByteArray := prog_1_method_41_code
def yX4_bestPart : MethodName := ⟨RX4, "bestPart", "(IIII)I"⟩
abbrev cX4_fitting : ByteArray := prog_1_method_42_code
def yX4_fitting : MethodName := ⟨RX4, "fitting", "(II)I"⟩
abbrev cX4_mostAlike : ByteArray := prog_1_method_43_code
def yX4_mostAlike : MethodName := ⟨RX4, "mostAlike", "(IIII)I"⟩
abbrev cX4_draftSteadyLamps : ByteArray := prog_1_method_44_code
def yX4_draftSteadyLamps : MethodName := ⟨RX4, "draftSteadyLamps", "()V"⟩
abbrev cX4_inLowestTerms : ByteArray := prog_1_method_45_code
def yX4_inLowestTerms : MethodName := ⟨RX4, "inLowestTerms", "(JJI)J"⟩
abbrev cX4_isPhaseOfLamp : ByteArray := prog_1_method_46_code
def yX4_isPhaseOfLamp : MethodName := ⟨RX4, "isPhaseOfLamp", "(LRowShutter$Sheet;I)Z"⟩
abbrev cX4_takePhases : ByteArray := prog_1_method_47_code
def yX4_takePhases : MethodName := ⟨RX4, "takePhases", "(LRowShutter$Sheet;II)V"⟩
def RX5 : String := "RowShutterModel"
def TX5 : u_T := fun k => match k with
  | 0 => ("RowShutterModel", "st", "[I", true)
  | 1 => ("RowShutterModel", "now", "[I", true)
  | 2 => ("RowShutterModel", "isKept", "[Z", true)
  | 3 => ("RowShutterModel", "draft", "[I", true)
  | 4 => ("RowShutterModel", "hasTold", "[Z", true)
  | 5 => ("RowShutterModel", "tape", "[I", true)
  | 6 => ("RowShutterModel", "taped", "I", false)
  | 7 => ("RowShutterModel", "pos", "I", false)
  | 8 => ("RowShutterModel", "begun", "I", false)
  | 9 => ("RowShutterModel", "sort", "I", false)
  | 10 => ("RowShutterModel", "value", "I", false)
  | 11 => ("RowShutterModel", "fault", "I", false)
  | 12 => ("RowShutterModel", "wrongAt", "I", false)
  | 13 => ("RowShutterModel", "put0", "I", false)
  | 14 => ("RowShutterModel", "isFailing", "Z", false)
  | 15 => ("RowShutterModel", "widest", "I", false)
  | 16 => ("RowShutterModel", "narrowest", "I", false)
  | 17 => ("RowShutterModel", "brightSum", "I", false)
  | 18 => ("RowShutterModel", "fullRows", "I", false)
  | 19 => ("RowShutterModel", "bands", "I", false)
  | 20 => ("RowShutterModel", "bright", "[I", true)
  | 21 => ("RowShutterModel", "firstRows", "[I", true)
  | 22 => ("RowShutterModel", "bestCode", "I", false)
  | 23 => ("RowShutterModel", "bestMuch", "I", false)
  | 24 => ("RowShutterModel", "evenSum", "J", false)
  | 25 => ("RowShutterModel", "shineSum", "J", false)
  | 26 => ("RowShutterModel", "allWays", "J", false)
  | 27 => ("RowShutterModel", "brights", "[I", true)
  | 28 => ("RowShutterModel", "byPhase", "[I", true)
  | 29 => ("RowShutterModel", "lanes", "[I", true)
  | 30 => ("RowShutterModel", "sizes", "[I", true)
  | 31 => ("RowShutterModel", "cells", "[I", true)
  | 32 => ("RowShutterModel", "torn", "I", false)
  | _ => ("RowShutterModel", "before", "[I", true)
def tyX5 : Nat → FieldType := fun k => match k with
  | 0 => .array .int
  | 1 => .array .int
  | 2 => .array .boolean
  | 3 => .array .int
  | 4 => .array .boolean
  | 5 => .array .int
  | 6 => .int
  | 7 => .int
  | 8 => .int
  | 9 => .int
  | 10 => .int
  | 11 => .int
  | 12 => .int
  | 13 => .int
  | 14 => .boolean
  | 15 => .int
  | 16 => .int
  | 17 => .int
  | 18 => .int
  | 19 => .int
  | 20 => .array .int
  | 21 => .array .int
  | 22 => .int
  | 23 => .int
  | 24 => .long
  | 25 => .long
  | 26 => .long
  | 27 => .array .int
  | 28 => .array .int
  | 29 => .array .int
  | 30 => .array .int
  | 31 => .array .int
  | 32 => .int
  | _ => .array .int
abbrev wsX50 : List Cond := u_ws RX5 TX5 34
theorem nmX5 : ∀ a, a < 34 → ∀ b, b < 34 → a ≠ b → (TX5 a).2.1 ≠ (TX5 b).2.1 := by decide +kernel
theorem tyX5_ok : ∀ k, k < 34 → parseFieldDescriptor (TX5 k).2.2.1 = some (tyX5 k) := by decide +kernel
abbrev cX5_init : ByteArray := prog_7_method_1_code
def yX5_init : MethodName := ⟨RX5, "<init>", "()V"⟩
abbrev cX5_in : ByteArray := prog_7_method_3_code
def yX5_in : MethodName := ⟨RX5, "in", "(JJJ)Z"⟩
abbrev cX5_flag : ByteArray := prog_7_method_4_code
def yX5_flag : MethodName := ⟨RX5, "flag", "(Z)I"⟩
abbrev cX5_firstDraft : ByteArray := prog_7_method_5_code
def yX5_firstDraft : MethodName := ⟨RX5, "firstDraft", "()V"⟩
abbrev cX5_keepDraft : ByteArray := prog_7_method_6_code
def yX5_keepDraft : MethodName := ⟨RX5, "keepDraft", "()V"⟩
abbrev cX5_feed : ByteArray := prog_7_method_7_code
def yX5_feed : MethodName := ⟨RX5, "feed", "(I)I"⟩
abbrev cX5_end : ByteArray := prog_7_method_8_code
def yX5_end : MethodName := ⟨RX5, "end", "(I)I"⟩
abbrev cX5_requires : ByteArray := prog_7_method_9_code
def yX5_requires : MethodName := ⟨RX5, "requires", "(ZI)V"⟩
abbrev cX5_byteAt : ByteArray := prog_7_method_10_code
def yX5_byteAt : MethodName := ⟨RX5, "byteAt", "(I)I"⟩
abbrev cX5_is : ByteArray := prog_7_method_11_code
def yX5_is : MethodName := ⟨RX5, "is", "(IIII)Z"⟩
abbrev cX5_endsIn : ByteArray := prog_7_method_12_code
def yX5_endsIn : MethodName := ⟨RX5, "endsIn", "(III)Z"⟩
abbrev cX5_lineNow : ByteArray := prog_7_method_13_code
def yX5_lineNow : MethodName := ⟨RX5, "lineNow", "()I"⟩
abbrev cX5_reads : ByteArray := prog_7_method_14_code
def yX5_reads : MethodName := ⟨RX5, "reads", "()V"⟩
abbrev cX5_readNumber : ByteArray := prog_7_method_15_code
def yX5_readNumber : MethodName := ⟨RX5, "readNumber", "(II)I"⟩
abbrev cX5_lowOf : ByteArray := prog_7_method_16_code
def yX5_lowOf : MethodName := ⟨RX5, "lowOf", "(I)I"⟩
abbrev cX5_mostOf : ByteArray := prog_7_method_17_code
def yX5_mostOf : MethodName := ⟨RX5, "mostOf", "(I)I"⟩
abbrev cX5_lowTold : ByteArray := prog_7_method_18_code
def yX5_lowTold : MethodName := ⟨RX5, "lowTold", "(I)I"⟩
abbrev cX5_mostTold : ByteArray := prog_7_method_19_code
def yX5_mostTold : MethodName := ⟨RX5, "mostTold", "(I)I"⟩
abbrev cX5_readLineOf : ByteArray := prog_7_method_20_code
def yX5_readLineOf : MethodName := ⟨RX5, "readLineOf", "(I)V"⟩
abbrev cX5_readLine : ByteArray := prog_7_method_21_code
def yX5_readLine : MethodName := ⟨RX5, "readLine", "()V"⟩
abbrev cX5_text : ByteArray := prog_7_method_22_code
def yX5_text : MethodName := ⟨RX5, "text", "()I"⟩
abbrev cX5_fault : ByteArray := prog_7_method_23_code
def yX5_fault : MethodName := ⟨RX5, "fault", "()I"⟩
abbrev cX5_isLamp : ByteArray := prog_7_method_24_code
def yX5_isLamp : MethodName := ⟨RX5, "isLamp", "(I)Z"⟩
abbrev cX5_isRow : ByteArray := prog_7_method_25_code
def yX5_isRow : MethodName := ⟨RX5, "isRow", "(I)Z"⟩
abbrev cX5_isPart : ByteArray := prog_7_method_26_code
def yX5_isPart : MethodName := ⟨RX5, "isPart", "(I)Z"⟩
abbrev cX5_starts : ByteArray := prog_7_method_27_code
def yX5_starts : MethodName := ⟨RX5, "starts", "()V"⟩
abbrev cX5_settles : ByteArray := prog_7_method_28_code
def yX5_settles : MethodName := ⟨RX5, "settles", "()V"⟩
abbrev cX5_of : ByteArray := prog_7_method_29_code
def yX5_of : MethodName := ⟨RX5, "of", "(II)I"⟩
abbrev cX5_gives : ByteArray := prog_7_method_30_code
def yX5_gives : MethodName := ⟨RX5, "gives", "(II)I"⟩
abbrev cX5_shine : ByteArray := prog_7_method_31_code
def yX5_shine : MethodName := ⟨RX5, "shine", "(I)I"⟩
abbrev cX5_rowAt : ByteArray := prog_7_method_32_code
def yX5_rowAt : MethodName := ⟨RX5, "rowAt", "(I)I"⟩
abbrev cX5_shotGoes : ByteArray := prog_7_method_33_code
def yX5_shotGoes : MethodName := ⟨RX5, "shotGoes", "()V"⟩
abbrev cX5_shotsGo : ByteArray := prog_7_method_34_code
def yX5_shotsGo : MethodName := ⟨RX5, "shotsGo", "(I)V"⟩
abbrev cX5_rule : ByteArray := prog_7_method_35_code
def yX5_rule : MethodName := ⟨RX5, "rule", "(I)I"⟩
abbrev cX5_lamp : ByteArray := prog_7_method_36_code
def yX5_lamp : MethodName := ⟨RX5, "lamp", "(II)I"⟩
abbrev cX5_row : ByteArray := prog_7_method_37_code
def yX5_row : MethodName := ⟨RX5, "row", "(I)I"⟩
abbrev cX5_becomes : ByteArray := prog_7_method_38_code
def yX5_becomes : MethodName := ⟨RX5, "becomes", "(II)I"⟩
abbrev cX5_alter : ByteArray := prog_7_method_39_code
def yX5_alter : MethodName := ⟨RX5, "alter", "(III)I"⟩
abbrev cX5_tell : ByteArray := prog_7_method_40_code
def yX5_tell : MethodName := ⟨RX5, "tell", "(II)I"⟩
abbrev cX5_put : ByteArray := prog_7_method_41_code
def yX5_put : MethodName := ⟨RX5, "put", "(III)I"⟩
abbrev cX5_cut : ByteArray := prog_7_method_42_code
def yX5_cut : MethodName := ⟨RX5, "cut", "(I)I"⟩
abbrev cX5_rest : ByteArray := prog_7_method_43_code
def yX5_rest : MethodName := ⟨RX5, "rest", "(I)I"⟩
abbrev cX5_isFar : ByteArray := prog_7_method_44_code
def yX5_isFar : MethodName := ⟨RX5, "isFar", "(I)Z"⟩
abbrev cX5_shoot : ByteArray := prog_7_method_45_code
def yX5_shoot : MethodName := ⟨RX5, "shoot", "(I)I"⟩
abbrev cX5_runs : ByteArray := prog_7_method_46_code
def yX5_runs : MethodName := ⟨RX5, "runs", "(II)I"⟩
abbrev cX5_ahead : ByteArray := prog_7_method_47_code
def yX5_ahead : MethodName := ⟨RX5, "ahead", "(II)I"⟩
abbrev cX5_when : ByteArray := prog_7_method_48_code
def yX5_when : MethodName := ⟨RX5, "when", "(I)I"⟩
abbrev cX5_again : ByteArray := prog_7_method_49_code
def yX5_again : MethodName := ⟨RX5, "again", "()I"⟩
abbrev cX5_startsJudging : ByteArray := prog_7_method_50_code
def yX5_startsJudging : MethodName := ⟨RX5, "startsJudging", "(I)V"⟩
abbrev cX5_judges : ByteArray := prog_7_method_51_code
def yX5_judges : MethodName := ⟨RX5, "judges", "(II)V"⟩
abbrev cX5_judged : ByteArray := prog_7_method_52_code
def yX5_judged : MethodName := ⟨RX5, "judged", "(I)I"⟩
abbrev cX5_bestOf : ByteArray := prog_7_method_53_code
def yX5_bestOf : MethodName := ⟨RX5, "bestOf", "(IIIII)I"⟩
abbrev cX5_best : ByteArray := prog_7_method_54_code
def yX5_best : MethodName := ⟨RX5, "best", "(III)I"⟩
abbrev cX5_kind : ByteArray := prog_7_method_55_code
def yX5_kind : MethodName := ⟨RX5, "kind", "(III)I"⟩
abbrev cX5_phase : ByteArray := prog_7_method_56_code
def yX5_phase : MethodName := ⟨RX5, "phase", "(III)I"⟩
abbrev cX5_out : ByteArray := prog_7_method_57_code
def yX5_out : MethodName := ⟨RX5, "out", "(II)I"⟩
abbrev cX5_common : ByteArray := prog_7_method_58_code
def yX5_common : MethodName := ⟨RX5, "common", "(JJ)J"⟩
abbrev cX5_lowest : ByteArray := prog_7_method_59_code
def yX5_lowest : MethodName := ⟨RX5, "lowest", "(JJI)J"⟩
abbrev cX5_findOdds : ByteArray := prog_7_method_60_code
def yX5_findOdds : MethodName := ⟨RX5, "findOdds", "(III)V"⟩
abbrev cX5_luck : ByteArray := prog_7_method_61_code
def yX5_luck : MethodName := ⟨RX5, "luck", "(IIII)J"⟩
abbrev cX5_mean : ByteArray := prog_7_method_62_code
def yX5_mean : MethodName := ⟨RX5, "mean", "(III)J"⟩
abbrev cX5_see : ByteArray := prog_7_method_63_code
def yX5_see : MethodName := ⟨RX5, "see", "(III)I"⟩
abbrev cX5_forget : ByteArray := prog_7_method_64_code
def yX5_forget : MethodName := ⟨RX5, "forget", "(I)I"⟩
abbrev cX5_isSoWith : ByteArray := prog_7_method_65_code
def yX5_isSoWith : MethodName := ⟨RX5, "isSoWith", "(II)Z"⟩
abbrev cX5_which : ByteArray := prog_7_method_66_code
def yX5_which : MethodName := ⟨RX5, "which", "(II)I"⟩
abbrev cX5_kinds : ByteArray := prog_7_method_67_code
def yX5_kinds : MethodName := ⟨RX5, "kinds", "(I)I"⟩
abbrev cX5_phases : ByteArray := prog_7_method_68_code
def yX5_phases : MethodName := ⟨RX5, "phases", "(I)I"⟩
abbrev cX5_ask : ByteArray := prog_7_method_69_code
def yX5_ask : MethodName := ⟨RX5, "ask", "(II)I"⟩
abbrev cX5_drift : ByteArray := prog_7_method_70_code
def yX5_drift : MethodName := ⟨RX5, "drift", "(III)I"⟩
abbrev cX5_copies : ByteArray := prog_7_method_71_code
def yX5_copies : MethodName := ⟨RX5, "copies", "(II)V"⟩
abbrev cX5_keep : ByteArray := prog_7_method_72_code
def yX5_keep : MethodName := ⟨RX5, "keep", "(I)I"⟩
abbrev cX5_back : ByteArray := prog_7_method_73_code
def yX5_back : MethodName := ⟨RX5, "back", "(I)I"⟩
abbrev cX5_isSheet : ByteArray := prog_7_method_74_code
def yX5_isSheet : MethodName := ⟨RX5, "isSheet", "(II)Z"⟩
abbrev cX5_sheet : ByteArray := prog_7_method_75_code
def yX5_sheet : MethodName := ⟨RX5, "sheet", "(III)I"⟩
abbrev cX5_lay : ByteArray := prog_7_method_76_code
def yX5_lay : MethodName := ⟨RX5, "lay", "(III)I"⟩
abbrev cX5_read : ByteArray := prog_7_method_77_code
def yX5_read : MethodName := ⟨RX5, "read", "(IIII)I"⟩
abbrev cX5_torn : ByteArray := prog_7_method_78_code
def yX5_torn : MethodName := ⟨RX5, "torn", "()I"⟩
abbrev cX5_sumOf : ByteArray := prog_7_method_79_code
def yX5_sumOf : MethodName := ⟨RX5, "sumOf", "(I)I"⟩
abbrev cX5_count : ByteArray := prog_7_method_80_code
def yX5_count : MethodName := ⟨RX5, "count", "(I)I"⟩
def RJx145de : String := "java/io/Serializable"
def TJx145de : u_T := fun k => match k with
  | _ => ("", "", "", false)
def tyJx145de : Nat → FieldType := fun k => match k with
  | _ => .int
abbrev wsJx145de0 : List Cond := u_ws RJx145de TJx145de 0
theorem nmJx145de : ∀ a, a < 0 → ∀ b, b < 0 → a ≠ b → (TJx145de a).2.1 ≠ (TJx145de b).2.1 := by decide +kernel
theorem tyJx145de_ok : ∀ k, k < 0 → parseFieldDescriptor (TJx145de k).2.2.1 = some (tyJx145de k) := by decide +kernel
def RJx9f9b0 : String := "java/lang/CharSequence"
def TJx9f9b0 : u_T := fun k => match k with
  | _ => ("", "", "", false)
def tyJx9f9b0 : Nat → FieldType := fun k => match k with
  | _ => .int
abbrev wsJx9f9b00 : List Cond := u_ws RJx9f9b0 TJx9f9b0 0
theorem nmJx9f9b0 : ∀ a, a < 0 → ∀ b, b < 0 → a ≠ b → (TJx9f9b0 a).2.1 ≠ (TJx9f9b0 b).2.1 := by decide +kernel
theorem tyJx9f9b0_ok : ∀ k, k < 0 → parseFieldDescriptor (TJx9f9b0 k).2.2.1 = some (tyJx9f9b0 k) := by decide +kernel
def RJxb160c : String := "java/lang/Comparable"
def TJxb160c : u_T := fun k => match k with
  | _ => ("", "", "", false)
def tyJxb160c : Nat → FieldType := fun k => match k with
  | _ => .int
abbrev wsJxb160c0 : List Cond := u_ws RJxb160c TJxb160c 0
theorem nmJxb160c : ∀ a, a < 0 → ∀ b, b < 0 → a ≠ b → (TJxb160c a).2.1 ≠ (TJxb160c b).2.1 := by decide +kernel
theorem tyJxb160c_ok : ∀ k, k < 0 → parseFieldDescriptor (TJxb160c k).2.2.1 = some (tyJxb160c k) := by decide +kernel
def RJ6 : String := "java/lang/Integer"
def TJ6 : u_T := fun k => match k with
  | _ => ("", "", "", false)
def tyJ6 : Nat → FieldType := fun k => match k with
  | _ => .int
abbrev wsJ60 : List Cond := u_ws RJ6 TJ6 0
theorem nmJ6 : ∀ a, a < 0 → ∀ b, b < 0 → a ≠ b → (TJ6 a).2.1 ≠ (TJ6 b).2.1 := by decide +kernel
theorem tyJ6_ok : ∀ k, k < 0 → parseFieldDescriptor (TJ6 k).2.2.1 = some (tyJ6 k) := by decide +kernel
abbrev cJ6_bitCount_0f7a4 : ByteArray := prog_8_method_49_code
def yJ6_bitCount_0f7a4 : MethodName := ⟨RJ6, "bitCount", "(I)I"⟩
def RJ9 : String := "java/lang/Math"
def TJ9 : u_T := fun k => match k with
  | _ => ("", "", "", false)
def tyJ9 : Nat → FieldType := fun k => match k with
  | _ => .int
abbrev wsJ90 : List Cond := u_ws RJ9 TJ9 0
theorem nmJ9 : ∀ a, a < 0 → ∀ b, b < 0 → a ≠ b → (TJ9 a).2.1 ≠ (TJ9 b).2.1 := by decide +kernel
theorem tyJ9_ok : ∀ k, k < 0 → parseFieldDescriptor (TJ9 k).2.2.1 = some (tyJ9 k) := by decide +kernel
abbrev cJ9_max_7cf53 : ByteArray := prog_9_method_65_code
def yJ9_max_7cf53 : MethodName := ⟨RJ9, "max", "(II)I"⟩
abbrev cJ9_min_7cf53 : ByteArray := prog_9_method_69_code
def yJ9_min_7cf53 : MethodName := ⟨RJ9, "min", "(II)I"⟩
def RJ0 : String := "java/lang/String"
def TJ0 : u_T := fun k => match k with
  | _ => ("", "", "", false)
def tyJ0 : Nat → FieldType := fun k => match k with
  | _ => .int
abbrev wsJ00 : List Cond := u_ws RJ0 TJ0 0
theorem nmJ0 : ∀ a, a < 0 → ∀ b, b < 0 → a ≠ b → (TJ0 a).2.1 ≠ (TJ0 b).2.1 := by decide +kernel
theorem tyJ0_ok : ∀ k, k < 0 → parseFieldDescriptor (TJ0 k).2.2.1 = some (tyJ0 k) := by decide +kernel
abbrev cJ0_length_8abf5 : ByteArray := prog_10_method_54_code
def yJ0_length_8abf5 : MethodName := ⟨RJ0, "length", "()I"⟩
abbrev cJ0_charAt_5068e : ByteArray := prog_10_method_56_code
def yJ0_charAt_5068e : MethodName := ⟨RJ0, "charAt", "(I)C"⟩
abbrev cJ0_coder_7d493 : ByteArray := prog_10_method_152_code
def yJ0_coder_7d493 : MethodName := ⟨RJ0, "coder", "()B"⟩
abbrev cJ0_isLatin1_aae02 : ByteArray := prog_10_method_154_code
def yJ0_isLatin1_aae02 : MethodName := ⟨RJ0, "isLatin1", "()Z"⟩
abbrev cJ0_checkIndex_df160 : ByteArray := prog_10_method_155_code
def yJ0_checkIndex_df160 : MethodName := ⟨RJ0, "checkIndex", "(II)V"⟩
def RJ1 : String := "java/lang/StringLatin1"
def TJ1 : u_T := fun k => match k with
  | _ => ("", "", "", false)
def tyJ1 : Nat → FieldType := fun k => match k with
  | _ => .int
abbrev wsJ10 : List Cond := u_ws RJ1 TJ1 0
theorem nmJ1 : ∀ a, a < 0 → ∀ b, b < 0 → a ≠ b → (TJ1 a).2.1 ≠ (TJ1 b).2.1 := by decide +kernel
theorem tyJ1_ok : ∀ k, k < 0 → parseFieldDescriptor (TJ1 k).2.2.1 = some (tyJ1 k) := by decide +kernel
abbrev cJ1_charAt_3b067 : ByteArray := prog_11_method_2_code
def yJ1_charAt_3b067 : MethodName := ⟨RJ1, "charAt", "([BI)C"⟩
def RJ2 : String := "java/lang/StringUTF16"
def TJ2 : u_T := fun k => match k with
  | _ => ("", "", "", false)
def tyJ2 : Nat → FieldType := fun k => match k with
  | _ => .int
abbrev wsJ20 : List Cond := u_ws RJ2 TJ2 0
theorem nmJ2 : ∀ a, a < 0 → ∀ b, b < 0 → a ≠ b → (TJ2 a).2.1 ≠ (TJ2 b).2.1 := by decide +kernel
theorem tyJ2_ok : ∀ k, k < 0 → parseFieldDescriptor (TJ2 k).2.2.1 = some (tyJ2 k) := by decide +kernel
abbrev cJ2_getChar_3b067 : ByteArray := prog_12_method_5_code
def yJ2_getChar_3b067 : MethodName := ⟨RJ2, "getChar", "([BI)C"⟩
abbrev cJ2_length_9d52b : ByteArray := prog_12_method_6_code
def yJ2_length_9d52b : MethodName := ⟨RJ2, "length", "([B)I"⟩
abbrev cJ2_charAt_3b067 : ByteArray := prog_12_method_83_code
def yJ2_charAt_3b067 : MethodName := ⟨RJ2, "charAt", "([BI)C"⟩
abbrev cJ2_checkIndex_2214a : ByteArray := prog_12_method_91_code
def yJ2_checkIndex_2214a : MethodName := ⟨RJ2, "checkIndex", "(I[B)V"⟩
def RJ10 : String := "java/lang/System"
def TJ10 : u_T := fun k => match k with
  | _ => ("", "", "", false)
def tyJ10 : Nat → FieldType := fun k => match k with
  | _ => .int
abbrev wsJ100 : List Cond := u_ws RJ10 TJ10 0
theorem nmJ10 : ∀ a, a < 0 → ∀ b, b < 0 → a ≠ b → (TJ10 a).2.1 ≠ (TJ10 b).2.1 := by decide +kernel
theorem tyJ10_ok : ∀ k, k < 0 → parseFieldDescriptor (TJ10 k).2.2.1 = some (tyJ10 k) := by decide +kernel
def RJxfd54e : String := "java/lang/constant/Constable"
def TJxfd54e : u_T := fun k => match k with
  | _ => ("", "", "", false)
def tyJxfd54e : Nat → FieldType := fun k => match k with
  | _ => .int
abbrev wsJxfd54e0 : List Cond := u_ws RJxfd54e TJxfd54e 0
theorem nmJxfd54e : ∀ a, a < 0 → ∀ b, b < 0 → a ≠ b → (TJxfd54e a).2.1 ≠ (TJxfd54e b).2.1 := by decide +kernel
theorem tyJxfd54e_ok : ∀ k, k < 0 → parseFieldDescriptor (TJxfd54e k).2.2.1 = some (tyJxfd54e k) := by decide +kernel
def RJx3cf43 : String := "java/lang/constant/ConstantDesc"
def TJx3cf43 : u_T := fun k => match k with
  | _ => ("", "", "", false)
def tyJx3cf43 : Nat → FieldType := fun k => match k with
  | _ => .int
abbrev wsJx3cf430 : List Cond := u_ws RJx3cf43 TJx3cf43 0
theorem nmJx3cf43 : ∀ a, a < 0 → ∀ b, b < 0 → a ≠ b → (TJx3cf43 a).2.1 ≠ (TJx3cf43 b).2.1 := by decide +kernel
theorem tyJx3cf43_ok : ∀ k, k < 0 → parseFieldDescriptor (TJx3cf43 k).2.2.1 = some (tyJx3cf43 k) := by decide +kernel
def RJ7 : String := "java/util/Arrays"
def TJ7 : u_T := fun k => match k with
  | _ => ("", "", "", false)
def tyJ7 : Nat → FieldType := fun k => match k with
  | _ => .int
abbrev wsJ70 : List Cond := u_ws RJ7 TJ7 0
theorem nmJ7 : ∀ a, a < 0 → ∀ b, b < 0 → a ≠ b → (TJ7 a).2.1 ≠ (TJ7 b).2.1 := by decide +kernel
theorem tyJ7_ok : ∀ k, k < 0 → parseFieldDescriptor (TJ7 k).2.2.1 = some (tyJ7 k) := by decide +kernel
abbrev cJ7_fill_53178 : ByteArray := prog_14_method_103_code
def yJ7_fill_53178 : MethodName := ⟨RJ7, "fill", "([II)V"⟩
def RJ3 : String := "jdk/internal/util/Preconditions"
def TJ3 : u_T := fun k => match k with
  | _ => ("", "", "", false)
def tyJ3 : Nat → FieldType := fun k => match k with
  | _ => .int
abbrev wsJ30 : List Cond := u_ws RJ3 TJ3 0
theorem nmJ3 : ∀ a, a < 0 → ∀ b, b < 0 → a ≠ b → (TJ3 a).2.1 ≠ (TJ3 b).2.1 := by decide +kernel
theorem tyJ3_ok : ∀ k, k < 0 → parseFieldDescriptor (TJ3 k).2.2.1 = some (tyJ3 k) := by decide +kernel
abbrev cJ3_checkIndex_8e157 : ByteArray := prog_15_method_11_code
def yJ3_checkIndex_8e157 : MethodName := ⟨RJ3, "checkIndex", "(IILjava/util/function/BiFunction;)I"⟩
def RL : String := "RowShutterLaw"
abbrev cL_law : ByteArray := code
def yL_law : MethodName := ⟨RL, "law", "([I)Z"⟩
end
section
theorem dX0_init_0 : decode cX0_init 0 = .ok (.aload_n 0, 1) := by decide +kernel
theorem dX0_init_1 : decode cX0_init 1 = .ok (.invokespecial 3, 3) := by decide +kernel
theorem dX0_init_4 : decode cX0_init 4 = .ok (.aload_n 0, 1) := by decide +kernel
theorem dX0_init_5 : decode cX0_init 5 = .ok (.iconst 4, 1) := by decide +kernel
theorem dX0_init_6 : decode cX0_init 6 = .ok (.newarray .int, 2) := by decide +kernel
theorem dX0_init_8 : decode cX0_init 8 = .ok (.dup, 1) := by decide +kernel
theorem dX0_init_9 : decode cX0_init 9 = .ok (.iconst 0, 1) := by decide +kernel
theorem dX0_init_10 : decode cX0_init 10 = .ok (.iconst 0, 1) := by decide +kernel
theorem dX0_init_11 : decode cX0_init 11 = .ok (.iastore, 1) := by decide +kernel
theorem dX0_init_12 : decode cX0_init 12 = .ok (.dup, 1) := by decide +kernel
theorem dX0_init_13 : decode cX0_init 13 = .ok (.iconst 1, 1) := by decide +kernel
theorem dX0_init_14 : decode cX0_init 14 = .ok (.iconst 1, 1) := by decide +kernel
theorem dX0_init_15 : decode cX0_init 15 = .ok (.iastore, 1) := by decide +kernel
theorem dX0_init_16 : decode cX0_init 16 = .ok (.dup, 1) := by decide +kernel
theorem dX0_init_17 : decode cX0_init 17 = .ok (.iconst 2, 1) := by decide +kernel
theorem dX0_init_18 : decode cX0_init 18 = .ok (.iconst 1, 1) := by decide +kernel
theorem dX0_init_19 : decode cX0_init 19 = .ok (.iastore, 1) := by decide +kernel
theorem dX0_init_20 : decode cX0_init 20 = .ok (.dup, 1) := by decide +kernel
theorem dX0_init_21 : decode cX0_init 21 = .ok (.iconst 3, 1) := by decide +kernel
theorem dX0_init_22 : decode cX0_init 22 = .ok (.iconst 0, 1) := by decide +kernel
theorem dX0_init_23 : decode cX0_init 23 = .ok (.iastore, 1) := by decide +kernel
theorem dX0_init_24 : decode cX0_init 24 = .ok (.putfield 9, 3) := by decide +kernel
theorem dX0_init_27 : decode cX0_init 27 = .ok (.aload_n 0, 1) := by decide +kernel
theorem dX0_init_28 : decode cX0_init 28 = .ok (.bipush 13, 2) := by decide +kernel
theorem dX0_init_30 : decode cX0_init 30 = .ok (.newarray .int, 2) := by decide +kernel
theorem dX0_init_32 : decode cX0_init 32 = .ok (.putfield 15, 3) := by decide +kernel
theorem dX0_init_35 : decode cX0_init 35 = .ok (.return_, 1) := by decide +kernel
theorem dX0_copyFrom_0 : decode cX0_copyFrom 0 = .ok (.aload_n 1, 1) := by decide +kernel
theorem dX0_copyFrom_1 : decode cX0_copyFrom 1 = .ok (.getfield 9, 3) := by decide +kernel
theorem dX0_copyFrom_4 : decode cX0_copyFrom 4 = .ok (.iconst 0, 1) := by decide +kernel
theorem dX0_copyFrom_5 : decode cX0_copyFrom 5 = .ok (.aload_n 0, 1) := by decide +kernel
theorem dX0_copyFrom_6 : decode cX0_copyFrom 6 = .ok (.getfield 9, 3) := by decide +kernel
theorem dX0_copyFrom_9 : decode cX0_copyFrom 9 = .ok (.iconst 0, 1) := by decide +kernel
theorem dX0_copyFrom_10 : decode cX0_copyFrom 10 = .ok (.iconst 4, 1) := by decide +kernel
theorem dX0_copyFrom_11 : decode cX0_copyFrom 11 = .ok (.invokestatic 18, 3) := by decide +kernel
theorem dX0_copyFrom_14 : decode cX0_copyFrom 14 = .ok (.aload_n 1, 1) := by decide +kernel
theorem dX0_copyFrom_15 : decode cX0_copyFrom 15 = .ok (.getfield 15, 3) := by decide +kernel
theorem dX0_copyFrom_18 : decode cX0_copyFrom 18 = .ok (.iconst 0, 1) := by decide +kernel
theorem dX0_copyFrom_19 : decode cX0_copyFrom 19 = .ok (.aload_n 0, 1) := by decide +kernel
theorem dX0_copyFrom_20 : decode cX0_copyFrom 20 = .ok (.getfield 15, 3) := by decide +kernel
theorem dX0_copyFrom_23 : decode cX0_copyFrom 23 = .ok (.iconst 0, 1) := by decide +kernel
theorem dX0_copyFrom_24 : decode cX0_copyFrom 24 = .ok (.aload_n 0, 1) := by decide +kernel
theorem dX0_copyFrom_25 : decode cX0_copyFrom 25 = .ok (.getfield 15, 3) := by decide +kernel
theorem dX0_copyFrom_28 : decode cX0_copyFrom 28 = .ok (.arraylength, 1) := by decide +kernel
theorem dX0_copyFrom_29 : decode cX0_copyFrom 29 = .ok (.invokestatic 18, 3) := by decide +kernel
theorem dX0_copyFrom_32 : decode cX0_copyFrom 32 = .ok (.return_, 1) := by decide +kernel
theorem dX0_become_0 : decode cX0_become 0 = .ok (.iload_n 1, 1) := by decide +kernel
theorem dX0_become_1 : decode cX0_become 1 = .ok (.iload_n 2, 1) := by decide +kernel
theorem dX0_become_2 : decode cX0_become 2 = .ok (.invokestatic 24, 3) := by decide +kernel
theorem dX0_become_5 : decode cX0_become 5 = .ok (.ifCond .ne 4, 3) := by decide +kernel
theorem dX0_become_8 : decode cX0_become 8 = .ok (.return_, 1) := by decide +kernel
theorem dX0_become_9 : decode cX0_become 9 = .ok (.aload_n 0, 1) := by decide +kernel
theorem dX0_become_10 : decode cX0_become 10 = .ok (.getfield 9, 3) := by decide +kernel
theorem dX0_become_13 : decode cX0_become 13 = .ok (.iload_n 1, 1) := by decide +kernel
theorem dX0_become_14 : decode cX0_become 14 = .ok (.iload_n 2, 1) := by decide +kernel
theorem dX0_become_15 : decode cX0_become 15 = .ok (.iastore, 1) := by decide +kernel
theorem dX0_become_16 : decode cX0_become 16 = .ok (.iload_n 1, 1) := by decide +kernel
theorem dX0_become_17 : decode cX0_become 17 = .ok (.iconst 3, 1) := by decide +kernel
theorem dX0_become_18 : decode cX0_become 18 = .ok (.if_icmp .eq 7, 3) := by decide +kernel
theorem dX0_become_21 : decode cX0_become 21 = .ok (.aload_n 0, 1) := by decide +kernel
theorem dX0_become_22 : decode cX0_become 22 = .ok (.invokevirtual 28, 3) := by decide +kernel
theorem dX0_become_25 : decode cX0_become 25 = .ok (.return_, 1) := by decide +kernel
theorem dX0_putOut_0 : decode cX0_putOut 0 = .ok (.aload_n 0, 1) := by decide +kernel
theorem dX0_putOut_1 : decode cX0_putOut 1 = .ok (.getfield 15, 3) := by decide +kernel
theorem dX0_putOut_4 : decode cX0_putOut 4 = .ok (.iconst 0, 1) := by decide +kernel
theorem dX0_putOut_5 : decode cX0_putOut 5 = .ok (.invokestatic 31, 3) := by decide +kernel
theorem dX0_putOut_8 : decode cX0_putOut 8 = .ok (.return_, 1) := by decide +kernel
theorem dX0_gives_0 : decode cX0_gives 0 = .ok (.aload_n 0, 1) := by decide +kernel
theorem dX0_gives_1 : decode cX0_gives 1 = .ok (.getfield 9, 3) := by decide +kernel
theorem dX0_gives_4 : decode cX0_gives 4 = .ok (.iconst 2, 1) := by decide +kernel
theorem dX0_gives_5 : decode cX0_gives 5 = .ok (.iaload, 1) := by decide +kernel
theorem dX0_gives_6 : decode cX0_gives 6 = .ok (.istore_n 3, 1) := by decide +kernel
theorem dX0_gives_7 : decode cX0_gives 7 = .ok (.iload_n 3, 1) := by decide +kernel
theorem dX0_gives_8 : decode cX0_gives 8 = .ok (.iconst 1, 1) := by decide +kernel
theorem dX0_gives_9 : decode cX0_gives 9 = .ok (.if_icmp .lt 17, 3) := by decide +kernel
theorem dX0_gives_12 : decode cX0_gives 12 = .ok (.iload_n 3, 1) := by decide +kernel
theorem dX0_gives_13 : decode cX0_gives 13 = .ok (.bipush 12, 2) := by decide +kernel
theorem dX0_gives_15 : decode cX0_gives 15 = .ok (.if_icmp .gt 11, 3) := by decide +kernel
theorem dX0_gives_18 : decode cX0_gives 18 = .ok (.iload_n 1, 1) := by decide +kernel
theorem dX0_gives_19 : decode cX0_gives 19 = .ok (.ifCond .lt 7, 3) := by decide +kernel
theorem dX0_gives_22 : decode cX0_gives 22 = .ok (.iload_n 2, 1) := by decide +kernel
theorem dX0_gives_23 : decode cX0_gives 23 = .ok (.ifCond .ge 5, 3) := by decide +kernel
theorem dX0_gives_26 : decode cX0_gives 26 = .ok (.iconst 0, 1) := by decide +kernel
theorem dX0_gives_27 : decode cX0_gives 27 = .ok (.ireturn, 1) := by decide +kernel
theorem dX0_gives_28 : decode cX0_gives 28 = .ok (.iload_n 1, 1) := by decide +kernel
theorem dX0_gives_29 : decode cX0_gives 29 = .ok (.aload_n 0, 1) := by decide +kernel
theorem dX0_gives_30 : decode cX0_gives 30 = .ok (.getfield 9, 3) := by decide +kernel
theorem dX0_gives_33 : decode cX0_gives 33 = .ok (.iconst 3, 1) := by decide +kernel
theorem dX0_gives_34 : decode cX0_gives 34 = .ok (.iaload, 1) := by decide +kernel
theorem dX0_gives_35 : decode cX0_gives 35 = .ok (.iadd, 1) := by decide +kernel
theorem dX0_gives_36 : decode cX0_gives 36 = .ok (.iload_n 3, 1) := by decide +kernel
theorem dX0_gives_37 : decode cX0_gives 37 = .ok (.irem, 1) := by decide +kernel
theorem dX0_gives_38 : decode cX0_gives 38 = .ok (.istore 4, 2) := by decide +kernel
theorem dX0_gives_40 : decode cX0_gives 40 = .ok (.iload 4, 2) := by decide +kernel
theorem dX0_gives_42 : decode cX0_gives 42 = .ok (.iload_n 2, 1) := by decide +kernel
theorem dX0_gives_43 : decode cX0_gives 43 = .ok (.iload_n 3, 1) := by decide +kernel
theorem dX0_gives_44 : decode cX0_gives 44 = .ok (.irem, 1) := by decide +kernel
theorem dX0_gives_45 : decode cX0_gives 45 = .ok (.iadd, 1) := by decide +kernel
theorem dX0_gives_46 : decode cX0_gives 46 = .ok (.istore 5, 2) := by decide +kernel
theorem dX0_gives_48 : decode cX0_gives 48 = .ok (.iload_n 2, 1) := by decide +kernel
theorem dX0_gives_49 : decode cX0_gives 49 = .ok (.iload_n 3, 1) := by decide +kernel
theorem dX0_gives_50 : decode cX0_gives 50 = .ok (.idiv, 1) := by decide +kernel
theorem dX0_gives_51 : decode cX0_gives 51 = .ok (.istore 6, 2) := by decide +kernel
theorem dX0_gives_53 : decode cX0_gives 53 = .ok (.iload 5, 2) := by decide +kernel
theorem dX0_gives_55 : decode cX0_gives 55 = .ok (.iload_n 3, 1) := by decide +kernel
theorem dX0_gives_56 : decode cX0_gives 56 = .ok (.if_icmp .lt 12, 3) := by decide +kernel
theorem dX0_gives_59 : decode cX0_gives 59 = .ok (.iload 5, 2) := by decide +kernel
theorem dX0_gives_61 : decode cX0_gives 61 = .ok (.iload_n 3, 1) := by decide +kernel
theorem dX0_gives_62 : decode cX0_gives 62 = .ok (.isub, 1) := by decide +kernel
theorem dX0_gives_63 : decode cX0_gives 63 = .ok (.istore 5, 2) := by decide +kernel
theorem dX0_gives_65 : decode cX0_gives 65 = .ok (.iinc 6 1, 3) := by decide +kernel
theorem dX0_gives_68 : decode cX0_gives 68 = .ok (.iload 6, 2) := by decide +kernel
theorem dX0_gives_70 : decode cX0_gives 70 = .ok (.aload_n 0, 1) := by decide +kernel
theorem dX0_gives_71 : decode cX0_gives 71 = .ok (.getfield 15, 3) := by decide +kernel
theorem dX0_gives_74 : decode cX0_gives 74 = .ok (.iload_n 3, 1) := by decide +kernel
theorem dX0_gives_75 : decode cX0_gives 75 = .ok (.iaload, 1) := by decide +kernel
theorem dX0_gives_76 : decode cX0_gives 76 = .ok (.imul, 1) := by decide +kernel
theorem dX0_gives_77 : decode cX0_gives 77 = .ok (.aload_n 0, 1) := by decide +kernel
theorem dX0_gives_78 : decode cX0_gives 78 = .ok (.getfield 15, 3) := by decide +kernel
theorem dX0_gives_81 : decode cX0_gives 81 = .ok (.iload 5, 2) := by decide +kernel
theorem dX0_gives_83 : decode cX0_gives 83 = .ok (.iaload, 1) := by decide +kernel
theorem dX0_gives_84 : decode cX0_gives 84 = .ok (.iadd, 1) := by decide +kernel
theorem dX0_gives_85 : decode cX0_gives 85 = .ok (.aload_n 0, 1) := by decide +kernel
theorem dX0_gives_86 : decode cX0_gives 86 = .ok (.getfield 15, 3) := by decide +kernel
theorem dX0_gives_89 : decode cX0_gives 89 = .ok (.iload 4, 2) := by decide +kernel
theorem dX0_gives_91 : decode cX0_gives 91 = .ok (.iaload, 1) := by decide +kernel
theorem dX0_gives_92 : decode cX0_gives 92 = .ok (.isub, 1) := by decide +kernel
theorem dX0_gives_93 : decode cX0_gives 93 = .ok (.ireturn, 1) := by decide +kernel
theorem dX0_sumUp_0 : decode cX0_sumUp 0 = .ok (.iconst 0, 1) := by decide +kernel
theorem dX0_sumUp_1 : decode cX0_sumUp 1 = .ok (.istore_n 1, 1) := by decide +kernel
theorem dX0_sumUp_2 : decode cX0_sumUp 2 = .ok (.iload_n 1, 1) := by decide +kernel
theorem dX0_sumUp_3 : decode cX0_sumUp 3 = .ok (.aload_n 0, 1) := by decide +kernel
theorem dX0_sumUp_4 : decode cX0_sumUp 4 = .ok (.getfield 9, 3) := by decide +kernel
theorem dX0_sumUp_7 : decode cX0_sumUp 7 = .ok (.iconst 2, 1) := by decide +kernel
theorem dX0_sumUp_8 : decode cX0_sumUp 8 = .ok (.iaload, 1) := by decide +kernel
theorem dX0_sumUp_9 : decode cX0_sumUp 9 = .ok (.if_icmp .ge 35, 3) := by decide +kernel
theorem dX0_sumUp_12 : decode cX0_sumUp 12 = .ok (.iload_n 1, 1) := by decide +kernel
theorem dX0_sumUp_13 : decode cX0_sumUp 13 = .ok (.bipush 12, 2) := by decide +kernel
theorem dX0_sumUp_15 : decode cX0_sumUp 15 = .ok (.if_icmp .ge 29, 3) := by decide +kernel
theorem dX0_sumUp_18 : decode cX0_sumUp 18 = .ok (.aload_n 0, 1) := by decide +kernel
theorem dX0_sumUp_19 : decode cX0_sumUp 19 = .ok (.getfield 15, 3) := by decide +kernel
theorem dX0_sumUp_22 : decode cX0_sumUp 22 = .ok (.iload_n 1, 1) := by decide +kernel
theorem dX0_sumUp_23 : decode cX0_sumUp 23 = .ok (.iconst 1, 1) := by decide +kernel
theorem dX0_sumUp_24 : decode cX0_sumUp 24 = .ok (.iadd, 1) := by decide +kernel
theorem dX0_sumUp_25 : decode cX0_sumUp 25 = .ok (.aload_n 0, 1) := by decide +kernel
theorem dX0_sumUp_26 : decode cX0_sumUp 26 = .ok (.getfield 15, 3) := by decide +kernel
theorem dX0_sumUp_29 : decode cX0_sumUp 29 = .ok (.iload_n 1, 1) := by decide +kernel
theorem dX0_sumUp_30 : decode cX0_sumUp 30 = .ok (.iaload, 1) := by decide +kernel
theorem dX0_sumUp_31 : decode cX0_sumUp 31 = .ok (.aload_n 0, 1) := by decide +kernel
theorem dX0_sumUp_32 : decode cX0_sumUp 32 = .ok (.iload_n 1, 1) := by decide +kernel
theorem dX0_sumUp_33 : decode cX0_sumUp 33 = .ok (.invokevirtual 37, 3) := by decide +kernel
theorem dX0_sumUp_36 : decode cX0_sumUp 36 = .ok (.iadd, 1) := by decide +kernel
theorem dX0_sumUp_37 : decode cX0_sumUp 37 = .ok (.iastore, 1) := by decide +kernel
theorem dX0_sumUp_38 : decode cX0_sumUp 38 = .ok (.iinc 1 1, 3) := by decide +kernel
theorem dX0_sumUp_41 : decode cX0_sumUp 41 = .ok (.goto (-39), 3) := by decide +kernel
theorem dX0_sumUp_44 : decode cX0_sumUp 44 = .ok (.return_, 1) := by decide +kernel
theorem dX0_givesAt_0 : decode cX0_givesAt 0 = .ok (.aload_n 0, 1) := by decide +kernel
theorem dX0_givesAt_1 : decode cX0_givesAt 1 = .ok (.getfield 9, 3) := by decide +kernel
theorem dX0_givesAt_4 : decode cX0_givesAt 4 = .ok (.iconst 1, 1) := by decide +kernel
theorem dX0_givesAt_5 : decode cX0_givesAt 5 = .ok (.iaload, 1) := by decide +kernel
theorem dX0_givesAt_6 : decode cX0_givesAt 6 = .ok (.istore_n 2, 1) := by decide +kernel
theorem dX0_givesAt_7 : decode cX0_givesAt 7 = .ok (.aload_n 0, 1) := by decide +kernel
theorem dX0_givesAt_8 : decode cX0_givesAt 8 = .ok (.getfield 9, 3) := by decide +kernel
theorem dX0_givesAt_11 : decode cX0_givesAt 11 = .ok (.iconst 2, 1) := by decide +kernel
theorem dX0_givesAt_12 : decode cX0_givesAt 12 = .ok (.iaload, 1) := by decide +kernel
theorem dX0_givesAt_13 : decode cX0_givesAt 13 = .ok (.istore_n 3, 1) := by decide +kernel
theorem dX0_givesAt_14 : decode cX0_givesAt 14 = .ok (.iconst 2, 1) := by decide +kernel
theorem dX0_givesAt_15 : decode cX0_givesAt 15 = .ok (.iload_n 1, 1) := by decide +kernel
theorem dX0_givesAt_16 : decode cX0_givesAt 16 = .ok (.imul, 1) := by decide +kernel
theorem dX0_givesAt_17 : decode cX0_givesAt 17 = .ok (.iload_n 3, 1) := by decide +kernel
theorem dX0_givesAt_18 : decode cX0_givesAt 18 = .ok (.if_icmp .ge 7, 3) := by decide +kernel
theorem dX0_givesAt_21 : decode cX0_givesAt 21 = .ok (.iconst 1, 1) := by decide +kernel
theorem dX0_givesAt_22 : decode cX0_givesAt 22 = .ok (.goto 4, 3) := by decide +kernel
theorem dX0_givesAt_25 : decode cX0_givesAt 25 = .ok (.iconst 0, 1) := by decide +kernel
theorem dX0_givesAt_26 : decode cX0_givesAt 26 = .ok (.istore 4, 2) := by decide +kernel
theorem dX0_givesAt_28 : decode cX0_givesAt 28 = .ok (.aload_n 0, 1) := by decide +kernel
theorem dX0_givesAt_29 : decode cX0_givesAt 29 = .ok (.getfield 9, 3) := by decide +kernel
theorem dX0_givesAt_32 : decode cX0_givesAt 32 = .ok (.iconst 0, 1) := by decide +kernel
theorem dX0_givesAt_33 : decode cX0_givesAt 33 = .ok (.iaload, 1) := by decide +kernel
theorem dX0_givesAt_34 : decode cX0_givesAt 34 = .ok (.tableswitch 65 1 3 #[26, 37, 52], 26) := by decide +kernel
theorem dX0_givesAt_60 : decode cX0_givesAt 60 = .ok (.iload 4, 2) := by decide +kernel
theorem dX0_givesAt_62 : decode cX0_givesAt 62 = .ok (.ifCond .eq 7, 3) := by decide +kernel
theorem dX0_givesAt_65 : decode cX0_givesAt 65 = .ok (.iload_n 2, 1) := by decide +kernel
theorem dX0_givesAt_66 : decode cX0_givesAt 66 = .ok (.goto 4, 3) := by decide +kernel
theorem dX0_givesAt_69 : decode cX0_givesAt 69 = .ok (.iconst 0, 1) := by decide +kernel
theorem dX0_givesAt_70 : decode cX0_givesAt 70 = .ok (.ireturn, 1) := by decide +kernel
theorem dX0_givesAt_71 : decode cX0_givesAt 71 = .ok (.iload_n 3, 1) := by decide +kernel
theorem dX0_givesAt_72 : decode cX0_givesAt 72 = .ok (.iconst 1, 1) := by decide +kernel
theorem dX0_givesAt_73 : decode cX0_givesAt 73 = .ok (.if_icmp .ge 7, 3) := by decide +kernel
theorem dX0_givesAt_76 : decode cX0_givesAt 76 = .ok (.iconst 0, 1) := by decide +kernel
theorem dX0_givesAt_77 : decode cX0_givesAt 77 = .ok (.goto 8, 3) := by decide +kernel
theorem dX0_givesAt_80 : decode cX0_givesAt 80 = .ok (.iload_n 2, 1) := by decide +kernel
theorem dX0_givesAt_81 : decode cX0_givesAt 81 = .ok (.iload_n 1, 1) := by decide +kernel
theorem dX0_givesAt_82 : decode cX0_givesAt 82 = .ok (.imul, 1) := by decide +kernel
theorem dX0_givesAt_83 : decode cX0_givesAt 83 = .ok (.iload_n 3, 1) := by decide +kernel
theorem dX0_givesAt_84 : decode cX0_givesAt 84 = .ok (.idiv, 1) := by decide +kernel
theorem dX0_givesAt_85 : decode cX0_givesAt 85 = .ok (.ireturn, 1) := by decide +kernel
theorem dX0_givesAt_86 : decode cX0_givesAt 86 = .ok (.iload 4, 2) := by decide +kernel
theorem dX0_givesAt_88 : decode cX0_givesAt 88 = .ok (.ifCond .eq 7, 3) := by decide +kernel
theorem dX0_givesAt_91 : decode cX0_givesAt 91 = .ok (.iload_n 2, 1) := by decide +kernel
theorem dX0_givesAt_92 : decode cX0_givesAt 92 = .ok (.goto 6, 3) := by decide +kernel
theorem dX0_givesAt_95 : decode cX0_givesAt 95 = .ok (.iload_n 2, 1) := by decide +kernel
theorem dX0_givesAt_96 : decode cX0_givesAt 96 = .ok (.iconst 2, 1) := by decide +kernel
theorem dX0_givesAt_97 : decode cX0_givesAt 97 = .ok (.idiv, 1) := by decide +kernel
theorem dX0_givesAt_98 : decode cX0_givesAt 98 = .ok (.ireturn, 1) := by decide +kernel
theorem dX0_givesAt_99 : decode cX0_givesAt 99 = .ok (.iload_n 2, 1) := by decide +kernel
theorem dX0_givesAt_100 : decode cX0_givesAt 100 = .ok (.ireturn, 1) := by decide +kernel
theorem dX1_init_0 : decode cX1_init 0 = .ok (.aload_n 0, 1) := by decide +kernel
theorem dX1_init_1 : decode cX1_init 1 = .ok (.invokespecial 3, 3) := by decide +kernel
theorem dX1_init_4 : decode cX1_init 4 = .ok (.aload_n 0, 1) := by decide +kernel
theorem dX1_init_5 : decode cX1_init 5 = .ok (.iconst 4, 1) := by decide +kernel
theorem dX1_init_6 : decode cX1_init 6 = .ok (.anewarray 9, 3) := by decide +kernel
theorem dX1_init_9 : decode cX1_init 9 = .ok (.putfield 11, 3) := by decide +kernel
theorem dX1_init_12 : decode cX1_init 12 = .ok (.aload_n 0, 1) := by decide +kernel
theorem dX1_init_13 : decode cX1_init 13 = .ok (.iconst 4, 1) := by decide +kernel
theorem dX1_init_14 : decode cX1_init 14 = .ok (.newarray .int, 2) := by decide +kernel
theorem dX1_init_16 : decode cX1_init 16 = .ok (.putfield 17, 3) := by decide +kernel
theorem dX1_init_19 : decode cX1_init 19 = .ok (.aload_n 0, 1) := by decide +kernel
theorem dX1_init_20 : decode cX1_init 20 = .ok (.bipush 8, 2) := by decide +kernel
theorem dX1_init_22 : decode cX1_init 22 = .ok (.newarray .int, 2) := by decide +kernel
theorem dX1_init_24 : decode cX1_init 24 = .ok (.putfield 21, 3) := by decide +kernel
theorem dX1_init_27 : decode cX1_init 27 = .ok (.aload_n 0, 1) := by decide +kernel
theorem dX1_init_28 : decode cX1_init 28 = .ok (.bipush 6, 2) := by decide +kernel
theorem dX1_init_30 : decode cX1_init 30 = .ok (.newarray .int, 2) := by decide +kernel
theorem dX1_init_32 : decode cX1_init 32 = .ok (.putfield 24, 3) := by decide +kernel
theorem dX1_init_35 : decode cX1_init 35 = .ok (.aload_n 0, 1) := by decide +kernel
theorem dX1_init_36 : decode cX1_init 36 = .ok (.bipush 6, 2) := by decide +kernel
theorem dX1_init_38 : decode cX1_init 38 = .ok (.newarray .int, 2) := by decide +kernel
theorem dX1_init_40 : decode cX1_init 40 = .ok (.putfield 27, 3) := by decide +kernel
theorem dX1_init_43 : decode cX1_init 43 = .ok (.aload_n 0, 1) := by decide +kernel
theorem dX1_init_44 : decode cX1_init 44 = .ok (.bipush 6, 2) := by decide +kernel
theorem dX1_init_46 : decode cX1_init 46 = .ok (.newarray .int, 2) := by decide +kernel
theorem dX1_init_48 : decode cX1_init 48 = .ok (.putfield 30, 3) := by decide +kernel
theorem dX1_init_51 : decode cX1_init 51 = .ok (.iconst 0, 1) := by decide +kernel
theorem dX1_init_52 : decode cX1_init 52 = .ok (.istore_n 1, 1) := by decide +kernel
theorem dX1_init_53 : decode cX1_init 53 = .ok (.iload_n 1, 1) := by decide +kernel
theorem dX1_init_54 : decode cX1_init 54 = .ok (.iconst 4, 1) := by decide +kernel
theorem dX1_init_55 : decode cX1_init 55 = .ok (.if_icmp .ge 22, 3) := by decide +kernel
theorem dX1_init_58 : decode cX1_init 58 = .ok (.aload_n 0, 1) := by decide +kernel
theorem dX1_init_59 : decode cX1_init 59 = .ok (.getfield 11, 3) := by decide +kernel
theorem dX1_init_62 : decode cX1_init 62 = .ok (.iload_n 1, 1) := by decide +kernel
theorem dX1_init_63 : decode cX1_init 63 = .ok (.new 9, 3) := by decide +kernel
theorem dX1_init_66 : decode cX1_init 66 = .ok (.dup, 1) := by decide +kernel
theorem dX1_init_67 : decode cX1_init 67 = .ok (.invokespecial 33, 3) := by decide +kernel
theorem dX1_init_70 : decode cX1_init 70 = .ok (.aastore, 1) := by decide +kernel
theorem dX1_init_71 : decode cX1_init 71 = .ok (.iinc 1 1, 3) := by decide +kernel
theorem dX1_init_74 : decode cX1_init 74 = .ok (.goto (-21), 3) := by decide +kernel
theorem dX1_init_77 : decode cX1_init 77 = .ok (.getstatic 34, 3) := by decide +kernel
theorem dX1_init_80 : decode cX1_init 80 = .ok (.iconst 0, 1) := by decide +kernel
theorem dX1_init_81 : decode cX1_init 81 = .ok (.aload_n 0, 1) := by decide +kernel
theorem dX1_init_82 : decode cX1_init 82 = .ok (.getfield 17, 3) := by decide +kernel
theorem dX1_init_85 : decode cX1_init 85 = .ok (.iconst 0, 1) := by decide +kernel
theorem dX1_init_86 : decode cX1_init 86 = .ok (.iconst 4, 1) := by decide +kernel
theorem dX1_init_87 : decode cX1_init 87 = .ok (.invokestatic 37, 3) := by decide +kernel
theorem dX1_init_90 : decode cX1_init 90 = .ok (.return_, 1) := by decide +kernel
theorem dX1_clear_0 : decode cX1_clear 0 = .ok (.aload_n 0, 1) := by decide +kernel
theorem dX1_clear_1 : decode cX1_clear 1 = .ok (.iconst 0, 1) := by decide +kernel
theorem dX1_clear_2 : decode cX1_clear 2 = .ok (.putfield 43, 3) := by decide +kernel
theorem dX1_clear_5 : decode cX1_clear 5 = .ok (.getstatic 34, 3) := by decide +kernel
theorem dX1_clear_8 : decode cX1_clear 8 = .ok (.iconst 0, 1) := by decide +kernel
theorem dX1_clear_9 : decode cX1_clear 9 = .ok (.aload_n 0, 1) := by decide +kernel
theorem dX1_clear_10 : decode cX1_clear 10 = .ok (.getfield 17, 3) := by decide +kernel
theorem dX1_clear_13 : decode cX1_clear 13 = .ok (.iconst 0, 1) := by decide +kernel
theorem dX1_clear_14 : decode cX1_clear 14 = .ok (.iconst 4, 1) := by decide +kernel
theorem dX1_clear_15 : decode cX1_clear 15 = .ok (.invokestatic 37, 3) := by decide +kernel
theorem dX1_clear_18 : decode cX1_clear 18 = .ok (.aload_n 0, 1) := by decide +kernel
theorem dX1_clear_19 : decode cX1_clear 19 = .ok (.iconst 0, 1) := by decide +kernel
theorem dX1_clear_20 : decode cX1_clear 20 = .ok (.putfield 47, 3) := by decide +kernel
theorem dX1_clear_23 : decode cX1_clear 23 = .ok (.aload_n 0, 1) := by decide +kernel
theorem dX1_clear_24 : decode cX1_clear 24 = .ok (.iconst 0, 1) := by decide +kernel
theorem dX1_clear_25 : decode cX1_clear 25 = .ok (.putfield 50, 3) := by decide +kernel
theorem dX1_clear_28 : decode cX1_clear 28 = .ok (.aload_n 0, 1) := by decide +kernel
theorem dX1_clear_29 : decode cX1_clear 29 = .ok (.iconst 0, 1) := by decide +kernel
theorem dX1_clear_30 : decode cX1_clear 30 = .ok (.putfield 53, 3) := by decide +kernel
theorem dX1_clear_33 : decode cX1_clear 33 = .ok (.aload_n 0, 1) := by decide +kernel
theorem dX1_clear_34 : decode cX1_clear 34 = .ok (.iconst 0, 1) := by decide +kernel
theorem dX1_clear_35 : decode cX1_clear 35 = .ok (.putfield 56, 3) := by decide +kernel
theorem dX1_clear_38 : decode cX1_clear 38 = .ok (.return_, 1) := by decide +kernel
theorem dX1_copyFrom_0 : decode cX1_copyFrom 0 = .ok (.iconst 0, 1) := by decide +kernel
theorem dX1_copyFrom_1 : decode cX1_copyFrom 1 = .ok (.istore_n 2, 1) := by decide +kernel
theorem dX1_copyFrom_2 : decode cX1_copyFrom 2 = .ok (.iload_n 2, 1) := by decide +kernel
theorem dX1_copyFrom_3 : decode cX1_copyFrom 3 = .ok (.aload_n 1, 1) := by decide +kernel
theorem dX1_copyFrom_4 : decode cX1_copyFrom 4 = .ok (.getfield 43, 3) := by decide +kernel
theorem dX1_copyFrom_7 : decode cX1_copyFrom 7 = .ok (.if_icmp .ge 24, 3) := by decide +kernel
theorem dX1_copyFrom_10 : decode cX1_copyFrom 10 = .ok (.aload_n 0, 1) := by decide +kernel
theorem dX1_copyFrom_11 : decode cX1_copyFrom 11 = .ok (.getfield 11, 3) := by decide +kernel
theorem dX1_copyFrom_14 : decode cX1_copyFrom 14 = .ok (.iload_n 2, 1) := by decide +kernel
theorem dX1_copyFrom_15 : decode cX1_copyFrom 15 = .ok (.aaload, 1) := by decide +kernel
theorem dX1_copyFrom_16 : decode cX1_copyFrom 16 = .ok (.aload_n 1, 1) := by decide +kernel
theorem dX1_copyFrom_17 : decode cX1_copyFrom 17 = .ok (.getfield 11, 3) := by decide +kernel
theorem dX1_copyFrom_20 : decode cX1_copyFrom 20 = .ok (.iload_n 2, 1) := by decide +kernel
theorem dX1_copyFrom_21 : decode cX1_copyFrom 21 = .ok (.aaload, 1) := by decide +kernel
theorem dX1_copyFrom_22 : decode cX1_copyFrom 22 = .ok (.invokevirtual 59, 3) := by decide +kernel
theorem dX1_copyFrom_25 : decode cX1_copyFrom 25 = .ok (.iinc 2 1, 3) := by decide +kernel
theorem dX1_copyFrom_28 : decode cX1_copyFrom 28 = .ok (.goto (-26), 3) := by decide +kernel
theorem dX1_copyFrom_31 : decode cX1_copyFrom 31 = .ok (.aload_n 0, 1) := by decide +kernel
theorem dX1_copyFrom_32 : decode cX1_copyFrom 32 = .ok (.aload_n 1, 1) := by decide +kernel
theorem dX1_copyFrom_33 : decode cX1_copyFrom 33 = .ok (.getfield 43, 3) := by decide +kernel
theorem dX1_copyFrom_36 : decode cX1_copyFrom 36 = .ok (.putfield 43, 3) := by decide +kernel
theorem dX1_copyFrom_39 : decode cX1_copyFrom 39 = .ok (.aload_n 1, 1) := by decide +kernel
theorem dX1_copyFrom_40 : decode cX1_copyFrom 40 = .ok (.getfield 17, 3) := by decide +kernel
theorem dX1_copyFrom_43 : decode cX1_copyFrom 43 = .ok (.iconst 0, 1) := by decide +kernel
theorem dX1_copyFrom_44 : decode cX1_copyFrom 44 = .ok (.aload_n 0, 1) := by decide +kernel
theorem dX1_copyFrom_45 : decode cX1_copyFrom 45 = .ok (.getfield 17, 3) := by decide +kernel
theorem dX1_copyFrom_48 : decode cX1_copyFrom 48 = .ok (.iconst 0, 1) := by decide +kernel
theorem dX1_copyFrom_49 : decode cX1_copyFrom 49 = .ok (.iconst 4, 1) := by decide +kernel
theorem dX1_copyFrom_50 : decode cX1_copyFrom 50 = .ok (.invokestatic 37, 3) := by decide +kernel
theorem dX1_copyFrom_53 : decode cX1_copyFrom 53 = .ok (.aload_n 0, 1) := by decide +kernel
theorem dX1_copyFrom_54 : decode cX1_copyFrom 54 = .ok (.aload_n 1, 1) := by decide +kernel
theorem dX1_copyFrom_55 : decode cX1_copyFrom 55 = .ok (.getfield 47, 3) := by decide +kernel
theorem dX1_copyFrom_58 : decode cX1_copyFrom 58 = .ok (.putfield 47, 3) := by decide +kernel
theorem dX1_copyFrom_61 : decode cX1_copyFrom 61 = .ok (.aload_n 0, 1) := by decide +kernel
theorem dX1_copyFrom_62 : decode cX1_copyFrom 62 = .ok (.aload_n 1, 1) := by decide +kernel
theorem dX1_copyFrom_63 : decode cX1_copyFrom 63 = .ok (.getfield 50, 3) := by decide +kernel
theorem dX1_copyFrom_66 : decode cX1_copyFrom 66 = .ok (.putfield 50, 3) := by decide +kernel
theorem dX1_copyFrom_69 : decode cX1_copyFrom 69 = .ok (.aload_n 1, 1) := by decide +kernel
theorem dX1_copyFrom_70 : decode cX1_copyFrom 70 = .ok (.getfield 21, 3) := by decide +kernel
theorem dX1_copyFrom_73 : decode cX1_copyFrom 73 = .ok (.iconst 0, 1) := by decide +kernel
theorem dX1_copyFrom_74 : decode cX1_copyFrom 74 = .ok (.aload_n 0, 1) := by decide +kernel
theorem dX1_copyFrom_75 : decode cX1_copyFrom 75 = .ok (.getfield 21, 3) := by decide +kernel
theorem dX1_copyFrom_78 : decode cX1_copyFrom 78 = .ok (.iconst 0, 1) := by decide +kernel
theorem dX1_copyFrom_79 : decode cX1_copyFrom 79 = .ok (.bipush 8, 2) := by decide +kernel
theorem dX1_copyFrom_81 : decode cX1_copyFrom 81 = .ok (.invokestatic 37, 3) := by decide +kernel
theorem dX1_copyFrom_84 : decode cX1_copyFrom 84 = .ok (.aload_n 0, 1) := by decide +kernel
theorem dX1_copyFrom_85 : decode cX1_copyFrom 85 = .ok (.aload_n 1, 1) := by decide +kernel
theorem dX1_copyFrom_86 : decode cX1_copyFrom 86 = .ok (.getfield 53, 3) := by decide +kernel
theorem dX1_copyFrom_89 : decode cX1_copyFrom 89 = .ok (.putfield 53, 3) := by decide +kernel
theorem dX1_copyFrom_92 : decode cX1_copyFrom 92 = .ok (.aload_n 1, 1) := by decide +kernel
theorem dX1_copyFrom_93 : decode cX1_copyFrom 93 = .ok (.getfield 24, 3) := by decide +kernel
theorem dX1_copyFrom_96 : decode cX1_copyFrom 96 = .ok (.iconst 0, 1) := by decide +kernel
theorem dX1_copyFrom_97 : decode cX1_copyFrom 97 = .ok (.aload_n 0, 1) := by decide +kernel
theorem dX1_copyFrom_98 : decode cX1_copyFrom 98 = .ok (.getfield 24, 3) := by decide +kernel
theorem dX1_copyFrom_101 : decode cX1_copyFrom 101 = .ok (.iconst 0, 1) := by decide +kernel
theorem dX1_copyFrom_102 : decode cX1_copyFrom 102 = .ok (.bipush 6, 2) := by decide +kernel
theorem dX1_copyFrom_104 : decode cX1_copyFrom 104 = .ok (.invokestatic 37, 3) := by decide +kernel
theorem dX1_copyFrom_107 : decode cX1_copyFrom 107 = .ok (.aload_n 1, 1) := by decide +kernel
theorem dX1_copyFrom_108 : decode cX1_copyFrom 108 = .ok (.getfield 27, 3) := by decide +kernel
theorem dX1_copyFrom_111 : decode cX1_copyFrom 111 = .ok (.iconst 0, 1) := by decide +kernel
theorem dX1_copyFrom_112 : decode cX1_copyFrom 112 = .ok (.aload_n 0, 1) := by decide +kernel
theorem dX1_copyFrom_113 : decode cX1_copyFrom 113 = .ok (.getfield 27, 3) := by decide +kernel
theorem dX1_copyFrom_116 : decode cX1_copyFrom 116 = .ok (.iconst 0, 1) := by decide +kernel
theorem dX1_copyFrom_117 : decode cX1_copyFrom 117 = .ok (.bipush 6, 2) := by decide +kernel
theorem dX1_copyFrom_119 : decode cX1_copyFrom 119 = .ok (.invokestatic 37, 3) := by decide +kernel
theorem dX1_copyFrom_122 : decode cX1_copyFrom 122 = .ok (.aload_n 1, 1) := by decide +kernel
theorem dX1_copyFrom_123 : decode cX1_copyFrom 123 = .ok (.getfield 30, 3) := by decide +kernel
theorem dX1_copyFrom_126 : decode cX1_copyFrom 126 = .ok (.iconst 0, 1) := by decide +kernel
theorem dX1_copyFrom_127 : decode cX1_copyFrom 127 = .ok (.aload_n 0, 1) := by decide +kernel
theorem dX1_copyFrom_128 : decode cX1_copyFrom 128 = .ok (.getfield 30, 3) := by decide +kernel
theorem dX1_copyFrom_131 : decode cX1_copyFrom 131 = .ok (.iconst 0, 1) := by decide +kernel
theorem dX1_copyFrom_132 : decode cX1_copyFrom 132 = .ok (.bipush 6, 2) := by decide +kernel
theorem dX1_copyFrom_134 : decode cX1_copyFrom 134 = .ok (.invokestatic 37, 3) := by decide +kernel
theorem dX1_copyFrom_137 : decode cX1_copyFrom 137 = .ok (.aload_n 0, 1) := by decide +kernel
theorem dX1_copyFrom_138 : decode cX1_copyFrom 138 = .ok (.aload_n 1, 1) := by decide +kernel
theorem dX1_copyFrom_139 : decode cX1_copyFrom 139 = .ok (.getfield 56, 3) := by decide +kernel
theorem dX1_copyFrom_142 : decode cX1_copyFrom 142 = .ok (.putfield 56, 3) := by decide +kernel
theorem dX1_copyFrom_145 : decode cX1_copyFrom 145 = .ok (.return_, 1) := by decide +kernel
theorem dX1_lampAt_0 : decode cX1_lampAt 0 = .ok (.iload_n 1, 1) := by decide +kernel
theorem dX1_lampAt_1 : decode cX1_lampAt 1 = .ok (.ifCond .lt 20, 3) := by decide +kernel
theorem dX1_lampAt_4 : decode cX1_lampAt 4 = .ok (.iload_n 1, 1) := by decide +kernel
theorem dX1_lampAt_5 : decode cX1_lampAt 5 = .ok (.aload_n 0, 1) := by decide +kernel
theorem dX1_lampAt_6 : decode cX1_lampAt 6 = .ok (.getfield 43, 3) := by decide +kernel
theorem dX1_lampAt_9 : decode cX1_lampAt 9 = .ok (.if_icmp .ge 12, 3) := by decide +kernel
theorem dX1_lampAt_12 : decode cX1_lampAt 12 = .ok (.aload_n 0, 1) := by decide +kernel
theorem dX1_lampAt_13 : decode cX1_lampAt 13 = .ok (.getfield 11, 3) := by decide +kernel
theorem dX1_lampAt_16 : decode cX1_lampAt 16 = .ok (.iload_n 1, 1) := by decide +kernel
theorem dX1_lampAt_17 : decode cX1_lampAt 17 = .ok (.aaload, 1) := by decide +kernel
theorem dX1_lampAt_18 : decode cX1_lampAt 18 = .ok (.goto 4, 3) := by decide +kernel
theorem dX1_lampAt_21 : decode cX1_lampAt 21 = .ok (.aconst_null, 1) := by decide +kernel
theorem dX1_lampAt_22 : decode cX1_lampAt 22 = .ok (.areturn, 1) := by decide +kernel
theorem dX1_addLamp_0 : decode cX1_addLamp 0 = .ok (.aload_n 0, 1) := by decide +kernel
theorem dX1_addLamp_1 : decode cX1_addLamp 1 = .ok (.getfield 43, 3) := by decide +kernel
theorem dX1_addLamp_4 : decode cX1_addLamp 4 = .ok (.iconst 4, 1) := by decide +kernel
theorem dX1_addLamp_5 : decode cX1_addLamp 5 = .ok (.if_icmp .lt 5, 3) := by decide +kernel
theorem dX1_addLamp_8 : decode cX1_addLamp 8 = .ok (.iconst 0, 1) := by decide +kernel
theorem dX1_addLamp_9 : decode cX1_addLamp 9 = .ok (.ireturn, 1) := by decide +kernel
theorem dX1_addLamp_10 : decode cX1_addLamp 10 = .ok (.aload_n 0, 1) := by decide +kernel
theorem dX1_addLamp_11 : decode cX1_addLamp 11 = .ok (.getfield 11, 3) := by decide +kernel
theorem dX1_addLamp_14 : decode cX1_addLamp 14 = .ok (.aload_n 0, 1) := by decide +kernel
theorem dX1_addLamp_15 : decode cX1_addLamp 15 = .ok (.getfield 43, 3) := by decide +kernel
theorem dX1_addLamp_18 : decode cX1_addLamp 18 = .ok (.aaload, 1) := by decide +kernel
theorem dX1_addLamp_19 : decode cX1_addLamp 19 = .ok (.astore 5, 2) := by decide +kernel
theorem dX1_addLamp_21 : decode cX1_addLamp 21 = .ok (.aload 5, 2) := by decide +kernel
theorem dX1_addLamp_23 : decode cX1_addLamp 23 = .ok (.iconst 0, 1) := by decide +kernel
theorem dX1_addLamp_24 : decode cX1_addLamp 24 = .ok (.iload_n 1, 1) := by decide +kernel
theorem dX1_addLamp_25 : decode cX1_addLamp 25 = .ok (.invokevirtual 63, 3) := by decide +kernel
theorem dX1_addLamp_28 : decode cX1_addLamp 28 = .ok (.aload 5, 2) := by decide +kernel
theorem dX1_addLamp_30 : decode cX1_addLamp 30 = .ok (.iconst 1, 1) := by decide +kernel
theorem dX1_addLamp_31 : decode cX1_addLamp 31 = .ok (.iload_n 2, 1) := by decide +kernel
theorem dX1_addLamp_32 : decode cX1_addLamp 32 = .ok (.invokevirtual 63, 3) := by decide +kernel
theorem dX1_addLamp_35 : decode cX1_addLamp 35 = .ok (.aload 5, 2) := by decide +kernel
theorem dX1_addLamp_37 : decode cX1_addLamp 37 = .ok (.iconst 2, 1) := by decide +kernel
theorem dX1_addLamp_38 : decode cX1_addLamp 38 = .ok (.iload_n 3, 1) := by decide +kernel
theorem dX1_addLamp_39 : decode cX1_addLamp 39 = .ok (.invokevirtual 63, 3) := by decide +kernel
theorem dX1_addLamp_42 : decode cX1_addLamp 42 = .ok (.aload 5, 2) := by decide +kernel
theorem dX1_addLamp_44 : decode cX1_addLamp 44 = .ok (.iconst 3, 1) := by decide +kernel
theorem dX1_addLamp_45 : decode cX1_addLamp 45 = .ok (.iload 4, 2) := by decide +kernel
theorem dX1_addLamp_47 : decode cX1_addLamp 47 = .ok (.invokevirtual 63, 3) := by decide +kernel
theorem dX1_addLamp_50 : decode cX1_addLamp 50 = .ok (.aload_n 0, 1) := by decide +kernel
theorem dX1_addLamp_51 : decode cX1_addLamp 51 = .ok (.dup, 1) := by decide +kernel
theorem dX1_addLamp_52 : decode cX1_addLamp 52 = .ok (.getfield 43, 3) := by decide +kernel
theorem dX1_addLamp_55 : decode cX1_addLamp 55 = .ok (.iconst 1, 1) := by decide +kernel
theorem dX1_addLamp_56 : decode cX1_addLamp 56 = .ok (.iadd, 1) := by decide +kernel
theorem dX1_addLamp_57 : decode cX1_addLamp 57 = .ok (.putfield 43, 3) := by decide +kernel
theorem dX1_addLamp_60 : decode cX1_addLamp 60 = .ok (.iconst 1, 1) := by decide +kernel
theorem dX1_addLamp_61 : decode cX1_addLamp 61 = .ok (.ireturn, 1) := by decide +kernel
theorem dX1_addSeen_0 : decode cX1_addSeen 0 = .ok (.aload_n 0, 1) := by decide +kernel
theorem dX1_addSeen_1 : decode cX1_addSeen 1 = .ok (.getfield 56, 3) := by decide +kernel
theorem dX1_addSeen_4 : decode cX1_addSeen 4 = .ok (.bipush 6, 2) := by decide +kernel
theorem dX1_addSeen_6 : decode cX1_addSeen 6 = .ok (.if_icmp .lt 5, 3) := by decide +kernel
theorem dX1_addSeen_9 : decode cX1_addSeen 9 = .ok (.iconst 0, 1) := by decide +kernel
theorem dX1_addSeen_10 : decode cX1_addSeen 10 = .ok (.ireturn, 1) := by decide +kernel
theorem dX1_addSeen_11 : decode cX1_addSeen 11 = .ok (.aload_n 0, 1) := by decide +kernel
theorem dX1_addSeen_12 : decode cX1_addSeen 12 = .ok (.getfield 24, 3) := by decide +kernel
theorem dX1_addSeen_15 : decode cX1_addSeen 15 = .ok (.aload_n 0, 1) := by decide +kernel
theorem dX1_addSeen_16 : decode cX1_addSeen 16 = .ok (.getfield 56, 3) := by decide +kernel
theorem dX1_addSeen_19 : decode cX1_addSeen 19 = .ok (.iload_n 1, 1) := by decide +kernel
theorem dX1_addSeen_20 : decode cX1_addSeen 20 = .ok (.iastore, 1) := by decide +kernel
theorem dX1_addSeen_21 : decode cX1_addSeen 21 = .ok (.aload_n 0, 1) := by decide +kernel
theorem dX1_addSeen_22 : decode cX1_addSeen 22 = .ok (.getfield 27, 3) := by decide +kernel
theorem dX1_addSeen_25 : decode cX1_addSeen 25 = .ok (.aload_n 0, 1) := by decide +kernel
theorem dX1_addSeen_26 : decode cX1_addSeen 26 = .ok (.getfield 56, 3) := by decide +kernel
theorem dX1_addSeen_29 : decode cX1_addSeen 29 = .ok (.iload_n 2, 1) := by decide +kernel
theorem dX1_addSeen_30 : decode cX1_addSeen 30 = .ok (.iastore, 1) := by decide +kernel
theorem dX1_addSeen_31 : decode cX1_addSeen 31 = .ok (.aload_n 0, 1) := by decide +kernel
theorem dX1_addSeen_32 : decode cX1_addSeen 32 = .ok (.getfield 30, 3) := by decide +kernel
theorem dX1_addSeen_35 : decode cX1_addSeen 35 = .ok (.aload_n 0, 1) := by decide +kernel
theorem dX1_addSeen_36 : decode cX1_addSeen 36 = .ok (.getfield 56, 3) := by decide +kernel
theorem dX1_addSeen_39 : decode cX1_addSeen 39 = .ok (.iload_n 3, 1) := by decide +kernel
theorem dX1_addSeen_40 : decode cX1_addSeen 40 = .ok (.iastore, 1) := by decide +kernel
theorem dX1_addSeen_41 : decode cX1_addSeen 41 = .ok (.aload_n 0, 1) := by decide +kernel
theorem dX1_addSeen_42 : decode cX1_addSeen 42 = .ok (.dup, 1) := by decide +kernel
theorem dX1_addSeen_43 : decode cX1_addSeen 43 = .ok (.getfield 56, 3) := by decide +kernel
theorem dX1_addSeen_46 : decode cX1_addSeen 46 = .ok (.iconst 1, 1) := by decide +kernel
theorem dX1_addSeen_47 : decode cX1_addSeen 47 = .ok (.iadd, 1) := by decide +kernel
theorem dX1_addSeen_48 : decode cX1_addSeen 48 = .ok (.putfield 56, 3) := by decide +kernel
theorem dX1_addSeen_51 : decode cX1_addSeen 51 = .ok (.iconst 1, 1) := by decide +kernel
theorem dX1_addSeen_52 : decode cX1_addSeen 52 = .ok (.ireturn, 1) := by decide +kernel
theorem dX1_sumOfPart_0 : decode cX1_sumOfPart 0 = .ok (.iconst 0, 1) := by decide +kernel
theorem dX1_sumOfPart_1 : decode cX1_sumOfPart 1 = .ok (.istore_n 2, 1) := by decide +kernel
theorem dX1_sumOfPart_2 : decode cX1_sumOfPart 2 = .ok (.iconst 0, 1) := by decide +kernel
theorem dX1_sumOfPart_3 : decode cX1_sumOfPart 3 = .ok (.istore_n 3, 1) := by decide +kernel
theorem dX1_sumOfPart_4 : decode cX1_sumOfPart 4 = .ok (.iload_n 3, 1) := by decide +kernel
theorem dX1_sumOfPart_5 : decode cX1_sumOfPart 5 = .ok (.aload_n 0, 1) := by decide +kernel
theorem dX1_sumOfPart_6 : decode cX1_sumOfPart 6 = .ok (.getfield 43, 3) := by decide +kernel
theorem dX1_sumOfPart_9 : decode cX1_sumOfPart 9 = .ok (.if_icmp .ge 23, 3) := by decide +kernel
theorem dX1_sumOfPart_12 : decode cX1_sumOfPart 12 = .ok (.iload_n 2, 1) := by decide +kernel
theorem dX1_sumOfPart_13 : decode cX1_sumOfPart 13 = .ok (.aload_n 0, 1) := by decide +kernel
theorem dX1_sumOfPart_14 : decode cX1_sumOfPart 14 = .ok (.getfield 11, 3) := by decide +kernel
theorem dX1_sumOfPart_17 : decode cX1_sumOfPart 17 = .ok (.iload_n 3, 1) := by decide +kernel
theorem dX1_sumOfPart_18 : decode cX1_sumOfPart 18 = .ok (.aaload, 1) := by decide +kernel
theorem dX1_sumOfPart_19 : decode cX1_sumOfPart 19 = .ok (.getfield 67, 3) := by decide +kernel
theorem dX1_sumOfPart_22 : decode cX1_sumOfPart 22 = .ok (.iload_n 1, 1) := by decide +kernel
theorem dX1_sumOfPart_23 : decode cX1_sumOfPart 23 = .ok (.iaload, 1) := by decide +kernel
theorem dX1_sumOfPart_24 : decode cX1_sumOfPart 24 = .ok (.iadd, 1) := by decide +kernel
theorem dX1_sumOfPart_25 : decode cX1_sumOfPart 25 = .ok (.istore_n 2, 1) := by decide +kernel
theorem dX1_sumOfPart_26 : decode cX1_sumOfPart 26 = .ok (.iinc 3 1, 3) := by decide +kernel
theorem dX1_sumOfPart_29 : decode cX1_sumOfPart 29 = .ok (.goto (-25), 3) := by decide +kernel
theorem dX1_sumOfPart_32 : decode cX1_sumOfPart 32 = .ok (.iload_n 2, 1) := by decide +kernel
theorem dX1_sumOfPart_33 : decode cX1_sumOfPart 33 = .ok (.ireturn, 1) := by decide +kernel
theorem dX1_shine_0 : decode cX1_shine 0 = .ok (.aload_n 0, 1) := by decide +kernel
theorem dX1_shine_1 : decode cX1_shine 1 = .ok (.aload_n 0, 1) := by decide +kernel
theorem dX1_shine_2 : decode cX1_shine 2 = .ok (.getfield 47, 3) := by decide +kernel
theorem dX1_shine_5 : decode cX1_shine 5 = .ok (.iconst 1, 1) := by decide +kernel
theorem dX1_shine_6 : decode cX1_shine 6 = .ok (.invokevirtual 70, 3) := by decide +kernel
theorem dX1_shine_9 : decode cX1_shine 9 = .ok (.ireturn, 1) := by decide +kernel
theorem dX1_lightIn_0 : decode cX1_lightIn 0 = .ok (.iconst 0, 1) := by decide +kernel
theorem dX1_lightIn_1 : decode cX1_lightIn 1 = .ok (.istore_n 3, 1) := by decide +kernel
theorem dX1_lightIn_2 : decode cX1_lightIn 2 = .ok (.iconst 0, 1) := by decide +kernel
theorem dX1_lightIn_3 : decode cX1_lightIn 3 = .ok (.istore 4, 2) := by decide +kernel
theorem dX1_lightIn_5 : decode cX1_lightIn 5 = .ok (.iload 4, 2) := by decide +kernel
theorem dX1_lightIn_7 : decode cX1_lightIn 7 = .ok (.aload_n 0, 1) := by decide +kernel
theorem dX1_lightIn_8 : decode cX1_lightIn 8 = .ok (.getfield 43, 3) := by decide +kernel
theorem dX1_lightIn_11 : decode cX1_lightIn 11 = .ok (.if_icmp .ge 24, 3) := by decide +kernel
theorem dX1_lightIn_14 : decode cX1_lightIn 14 = .ok (.iload_n 3, 1) := by decide +kernel
theorem dX1_lightIn_15 : decode cX1_lightIn 15 = .ok (.aload_n 0, 1) := by decide +kernel
theorem dX1_lightIn_16 : decode cX1_lightIn 16 = .ok (.getfield 11, 3) := by decide +kernel
theorem dX1_lightIn_19 : decode cX1_lightIn 19 = .ok (.iload 4, 2) := by decide +kernel
theorem dX1_lightIn_21 : decode cX1_lightIn 21 = .ok (.aaload, 1) := by decide +kernel
theorem dX1_lightIn_22 : decode cX1_lightIn 22 = .ok (.iload_n 1, 1) := by decide +kernel
theorem dX1_lightIn_23 : decode cX1_lightIn 23 = .ok (.iload_n 2, 1) := by decide +kernel
theorem dX1_lightIn_24 : decode cX1_lightIn 24 = .ok (.invokevirtual 74, 3) := by decide +kernel
theorem dX1_lightIn_27 : decode cX1_lightIn 27 = .ok (.iadd, 1) := by decide +kernel
theorem dX1_lightIn_28 : decode cX1_lightIn 28 = .ok (.istore_n 3, 1) := by decide +kernel
theorem dX1_lightIn_29 : decode cX1_lightIn 29 = .ok (.iinc 4 1, 3) := by decide +kernel
theorem dX1_lightIn_32 : decode cX1_lightIn 32 = .ok (.goto (-27), 3) := by decide +kernel
theorem dX1_lightIn_35 : decode cX1_lightIn 35 = .ok (.iload_n 3, 1) := by decide +kernel
theorem dX1_lightIn_36 : decode cX1_lightIn 36 = .ok (.ireturn, 1) := by decide +kernel
theorem dX1_startOf_0 : decode cX1_startOf 0 = .ok (.aload_n 0, 1) := by decide +kernel
theorem dX1_startOf_1 : decode cX1_startOf 1 = .ok (.getfield 47, 3) := by decide +kernel
theorem dX1_startOf_4 : decode cX1_startOf 4 = .ok (.iload_n 1, 1) := by decide +kernel
theorem dX1_startOf_5 : decode cX1_startOf 5 = .ok (.aload_n 0, 1) := by decide +kernel
theorem dX1_startOf_6 : decode cX1_startOf 6 = .ok (.getfield 17, 3) := by decide +kernel
theorem dX1_startOf_9 : decode cX1_startOf 9 = .ok (.iconst 3, 1) := by decide +kernel
theorem dX1_startOf_10 : decode cX1_startOf 10 = .ok (.iaload, 1) := by decide +kernel
theorem dX1_startOf_11 : decode cX1_startOf 11 = .ok (.imul, 1) := by decide +kernel
theorem dX1_startOf_12 : decode cX1_startOf 12 = .ok (.iadd, 1) := by decide +kernel
theorem dX1_startOf_13 : decode cX1_startOf 13 = .ok (.ireturn, 1) := by decide +kernel
theorem dX1_bright_0 : decode cX1_bright 0 = .ok (.sipush 255, 3) := by decide +kernel
theorem dX1_bright_3 : decode cX1_bright 3 = .ok (.aload_n 0, 1) := by decide +kernel
theorem dX1_bright_4 : decode cX1_bright 4 = .ok (.aload_n 0, 1) := by decide +kernel
theorem dX1_bright_5 : decode cX1_bright 5 = .ok (.iload_n 1, 1) := by decide +kernel
theorem dX1_bright_6 : decode cX1_bright 6 = .ok (.invokevirtual 77, 3) := by decide +kernel
theorem dX1_bright_9 : decode cX1_bright 9 = .ok (.aload_n 0, 1) := by decide +kernel
theorem dX1_bright_10 : decode cX1_bright 10 = .ok (.getfield 17, 3) := by decide +kernel
theorem dX1_bright_13 : decode cX1_bright 13 = .ok (.iconst 1, 1) := by decide +kernel
theorem dX1_bright_14 : decode cX1_bright 14 = .ok (.iaload, 1) := by decide +kernel
theorem dX1_bright_15 : decode cX1_bright 15 = .ok (.iload_n 2, 1) := by decide +kernel
theorem dX1_bright_16 : decode cX1_bright 16 = .ok (.imul, 1) := by decide +kernel
theorem dX1_bright_17 : decode cX1_bright 17 = .ok (.iadd, 1) := by decide +kernel
theorem dX1_bright_18 : decode cX1_bright 18 = .ok (.aload_n 0, 1) := by decide +kernel
theorem dX1_bright_19 : decode cX1_bright 19 = .ok (.getfield 17, 3) := by decide +kernel
theorem dX1_bright_22 : decode cX1_bright 22 = .ok (.iconst 2, 1) := by decide +kernel
theorem dX1_bright_23 : decode cX1_bright 23 = .ok (.iaload, 1) := by decide +kernel
theorem dX1_bright_24 : decode cX1_bright 24 = .ok (.invokevirtual 70, 3) := by decide +kernel
theorem dX1_bright_27 : decode cX1_bright 27 = .ok (.invokestatic 81, 3) := by decide +kernel
theorem dX1_bright_30 : decode cX1_bright 30 = .ok (.ireturn, 1) := by decide +kernel
theorem dX1_bands_0 : decode cX1_bands 0 = .ok (.iconst 0, 1) := by decide +kernel
theorem dX1_bands_1 : decode cX1_bands 1 = .ok (.istore_n 2, 1) := by decide +kernel
theorem dX1_bands_2 : decode cX1_bands 2 = .ok (.sipush 255, 3) := by decide +kernel
theorem dX1_bands_5 : decode cX1_bands 5 = .ok (.istore_n 3, 1) := by decide +kernel
theorem dX1_bands_6 : decode cX1_bands 6 = .ok (.iconst 0, 1) := by decide +kernel
theorem dX1_bands_7 : decode cX1_bands 7 = .ok (.istore 4, 2) := by decide +kernel
theorem dX1_bands_9 : decode cX1_bands 9 = .ok (.iload 4, 2) := by decide +kernel
theorem dX1_bands_11 : decode cX1_bands 11 = .ok (.aload_n 0, 1) := by decide +kernel
theorem dX1_bands_12 : decode cX1_bands 12 = .ok (.getfield 17, 3) := by decide +kernel
theorem dX1_bands_15 : decode cX1_bands 15 = .ok (.iconst 0, 1) := by decide +kernel
theorem dX1_bands_16 : decode cX1_bands 16 = .ok (.iaload, 1) := by decide +kernel
theorem dX1_bands_17 : decode cX1_bands 17 = .ok (.if_icmp .ge 32, 3) := by decide +kernel
theorem dX1_bands_20 : decode cX1_bands 20 = .ok (.aload_n 0, 1) := by decide +kernel
theorem dX1_bands_21 : decode cX1_bands 21 = .ok (.iload_n 1, 1) := by decide +kernel
theorem dX1_bands_22 : decode cX1_bands 22 = .ok (.iload 4, 2) := by decide +kernel
theorem dX1_bands_24 : decode cX1_bands 24 = .ok (.invokevirtual 86, 3) := by decide +kernel
theorem dX1_bands_27 : decode cX1_bands 27 = .ok (.istore 5, 2) := by decide +kernel
theorem dX1_bands_29 : decode cX1_bands 29 = .ok (.iload_n 2, 1) := by decide +kernel
theorem dX1_bands_30 : decode cX1_bands 30 = .ok (.iload 5, 2) := by decide +kernel
theorem dX1_bands_32 : decode cX1_bands 32 = .ok (.invokestatic 89, 3) := by decide +kernel
theorem dX1_bands_35 : decode cX1_bands 35 = .ok (.istore_n 2, 1) := by decide +kernel
theorem dX1_bands_36 : decode cX1_bands 36 = .ok (.iload_n 3, 1) := by decide +kernel
theorem dX1_bands_37 : decode cX1_bands 37 = .ok (.iload 5, 2) := by decide +kernel
theorem dX1_bands_39 : decode cX1_bands 39 = .ok (.invokestatic 81, 3) := by decide +kernel
theorem dX1_bands_42 : decode cX1_bands 42 = .ok (.istore_n 3, 1) := by decide +kernel
theorem dX1_bands_43 : decode cX1_bands 43 = .ok (.iinc 4 1, 3) := by decide +kernel
theorem dX1_bands_46 : decode cX1_bands 46 = .ok (.goto (-37), 3) := by decide +kernel
theorem dX1_bands_49 : decode cX1_bands 49 = .ok (.iload_n 2, 1) := by decide +kernel
theorem dX1_bands_50 : decode cX1_bands 50 = .ok (.iload_n 3, 1) := by decide +kernel
theorem dX1_bands_51 : decode cX1_bands 51 = .ok (.isub, 1) := by decide +kernel
theorem dX1_bands_52 : decode cX1_bands 52 = .ok (.ireturn, 1) := by decide +kernel
theorem dX1_lightOf_0 : decode cX1_lightOf 0 = .ok (.iconst 0, 1) := by decide +kernel
theorem dX1_lightOf_1 : decode cX1_lightOf 1 = .ok (.istore_n 2, 1) := by decide +kernel
theorem dX1_lightOf_2 : decode cX1_lightOf 2 = .ok (.iconst 0, 1) := by decide +kernel
theorem dX1_lightOf_3 : decode cX1_lightOf 3 = .ok (.istore_n 3, 1) := by decide +kernel
theorem dX1_lightOf_4 : decode cX1_lightOf 4 = .ok (.iload_n 3, 1) := by decide +kernel
theorem dX1_lightOf_5 : decode cX1_lightOf 5 = .ok (.aload_n 0, 1) := by decide +kernel
theorem dX1_lightOf_6 : decode cX1_lightOf 6 = .ok (.getfield 17, 3) := by decide +kernel
theorem dX1_lightOf_9 : decode cX1_lightOf 9 = .ok (.iconst 0, 1) := by decide +kernel
theorem dX1_lightOf_10 : decode cX1_lightOf 10 = .ok (.iaload, 1) := by decide +kernel
theorem dX1_lightOf_11 : decode cX1_lightOf 11 = .ok (.if_icmp .ge 18, 3) := by decide +kernel
theorem dX1_lightOf_14 : decode cX1_lightOf 14 = .ok (.iload_n 2, 1) := by decide +kernel
theorem dX1_lightOf_15 : decode cX1_lightOf 15 = .ok (.aload_n 0, 1) := by decide +kernel
theorem dX1_lightOf_16 : decode cX1_lightOf 16 = .ok (.iload_n 1, 1) := by decide +kernel
theorem dX1_lightOf_17 : decode cX1_lightOf 17 = .ok (.iload_n 3, 1) := by decide +kernel
theorem dX1_lightOf_18 : decode cX1_lightOf 18 = .ok (.invokevirtual 86, 3) := by decide +kernel
theorem dX1_lightOf_21 : decode cX1_lightOf 21 = .ok (.iadd, 1) := by decide +kernel
theorem dX1_lightOf_22 : decode cX1_lightOf 22 = .ok (.istore_n 2, 1) := by decide +kernel
theorem dX1_lightOf_23 : decode cX1_lightOf 23 = .ok (.iinc 3 1, 3) := by decide +kernel
theorem dX1_lightOf_26 : decode cX1_lightOf 26 = .ok (.goto (-22), 3) := by decide +kernel
theorem dX1_lightOf_29 : decode cX1_lightOf 29 = .ok (.iload_n 2, 1) := by decide +kernel
theorem dX1_lightOf_30 : decode cX1_lightOf 30 = .ok (.ireturn, 1) := by decide +kernel
theorem dX1_isLikeFirst_0 : decode cX1_isLikeFirst 0 = .ok (.iconst 0, 1) := by decide +kernel
theorem dX1_isLikeFirst_1 : decode cX1_isLikeFirst 1 = .ok (.istore_n 2, 1) := by decide +kernel
theorem dX1_isLikeFirst_2 : decode cX1_isLikeFirst 2 = .ok (.iload_n 2, 1) := by decide +kernel
theorem dX1_isLikeFirst_3 : decode cX1_isLikeFirst 3 = .ok (.aload_n 0, 1) := by decide +kernel
theorem dX1_isLikeFirst_4 : decode cX1_isLikeFirst 4 = .ok (.getfield 17, 3) := by decide +kernel
theorem dX1_isLikeFirst_7 : decode cX1_isLikeFirst 7 = .ok (.iconst 0, 1) := by decide +kernel
theorem dX1_isLikeFirst_8 : decode cX1_isLikeFirst 8 = .ok (.iaload, 1) := by decide +kernel
theorem dX1_isLikeFirst_9 : decode cX1_isLikeFirst 9 = .ok (.if_icmp .ge 26, 3) := by decide +kernel
theorem dX1_isLikeFirst_12 : decode cX1_isLikeFirst 12 = .ok (.aload_n 0, 1) := by decide +kernel
theorem dX1_isLikeFirst_13 : decode cX1_isLikeFirst 13 = .ok (.iload_n 1, 1) := by decide +kernel
theorem dX1_isLikeFirst_14 : decode cX1_isLikeFirst 14 = .ok (.iload_n 2, 1) := by decide +kernel
theorem dX1_isLikeFirst_15 : decode cX1_isLikeFirst 15 = .ok (.invokevirtual 86, 3) := by decide +kernel
theorem dX1_isLikeFirst_18 : decode cX1_isLikeFirst 18 = .ok (.aload_n 0, 1) := by decide +kernel
theorem dX1_isLikeFirst_19 : decode cX1_isLikeFirst 19 = .ok (.iconst 0, 1) := by decide +kernel
theorem dX1_isLikeFirst_20 : decode cX1_isLikeFirst 20 = .ok (.iload_n 2, 1) := by decide +kernel
theorem dX1_isLikeFirst_21 : decode cX1_isLikeFirst 21 = .ok (.invokevirtual 86, 3) := by decide +kernel
theorem dX1_isLikeFirst_24 : decode cX1_isLikeFirst 24 = .ok (.if_icmp .eq 5, 3) := by decide +kernel
theorem dX1_isLikeFirst_27 : decode cX1_isLikeFirst 27 = .ok (.iconst 0, 1) := by decide +kernel
theorem dX1_isLikeFirst_28 : decode cX1_isLikeFirst 28 = .ok (.ireturn, 1) := by decide +kernel
theorem dX1_isLikeFirst_29 : decode cX1_isLikeFirst 29 = .ok (.iinc 2 1, 3) := by decide +kernel
theorem dX1_isLikeFirst_32 : decode cX1_isLikeFirst 32 = .ok (.goto (-30), 3) := by decide +kernel
theorem dX1_isLikeFirst_35 : decode cX1_isLikeFirst 35 = .ok (.iconst 1, 1) := by decide +kernel
theorem dX1_isLikeFirst_36 : decode cX1_isLikeFirst 36 = .ok (.ireturn, 1) := by decide +kernel
theorem dX1_greatestBands_0 : decode cX1_greatestBands 0 = .ok (.iconst 0, 1) := by decide +kernel
theorem dX1_greatestBands_1 : decode cX1_greatestBands 1 = .ok (.istore_n 2, 1) := by decide +kernel
theorem dX1_greatestBands_2 : decode cX1_greatestBands 2 = .ok (.iconst 0, 1) := by decide +kernel
theorem dX1_greatestBands_3 : decode cX1_greatestBands 3 = .ok (.istore_n 3, 1) := by decide +kernel
theorem dX1_greatestBands_4 : decode cX1_greatestBands 4 = .ok (.iload_n 3, 1) := by decide +kernel
theorem dX1_greatestBands_5 : decode cX1_greatestBands 5 = .ok (.iload_n 1, 1) := by decide +kernel
theorem dX1_greatestBands_6 : decode cX1_greatestBands 6 = .ok (.if_icmp .ge 19, 3) := by decide +kernel
theorem dX1_greatestBands_9 : decode cX1_greatestBands 9 = .ok (.iload_n 2, 1) := by decide +kernel
theorem dX1_greatestBands_10 : decode cX1_greatestBands 10 = .ok (.aload_n 0, 1) := by decide +kernel
theorem dX1_greatestBands_11 : decode cX1_greatestBands 11 = .ok (.iload_n 3, 1) := by decide +kernel
theorem dX1_greatestBands_12 : decode cX1_greatestBands 12 = .ok (.invokevirtual 92, 3) := by decide +kernel
theorem dX1_greatestBands_15 : decode cX1_greatestBands 15 = .ok (.invokestatic 89, 3) := by decide +kernel
theorem dX1_greatestBands_18 : decode cX1_greatestBands 18 = .ok (.istore_n 2, 1) := by decide +kernel
theorem dX1_greatestBands_19 : decode cX1_greatestBands 19 = .ok (.iinc 3 1, 3) := by decide +kernel
theorem dX1_greatestBands_22 : decode cX1_greatestBands 22 = .ok (.goto (-18), 3) := by decide +kernel
theorem dX1_greatestBands_25 : decode cX1_greatestBands 25 = .ok (.iload_n 2, 1) := by decide +kernel
theorem dX1_greatestBands_26 : decode cX1_greatestBands 26 = .ok (.ireturn, 1) := by decide +kernel
theorem dX1_leastBands_0 : decode cX1_leastBands 0 = .ok (.iload_n 1, 1) := by decide +kernel
theorem dX1_leastBands_1 : decode cX1_leastBands 1 = .ok (.iconst 1, 1) := by decide +kernel
theorem dX1_leastBands_2 : decode cX1_leastBands 2 = .ok (.if_icmp .ge 6, 3) := by decide +kernel
theorem dX1_leastBands_5 : decode cX1_leastBands 5 = .ok (.bipush (-4), 2) := by decide +kernel
theorem dX1_leastBands_7 : decode cX1_leastBands 7 = .ok (.ireturn, 1) := by decide +kernel
theorem dX1_leastBands_8 : decode cX1_leastBands 8 = .ok (.sipush 255, 3) := by decide +kernel
theorem dX1_leastBands_11 : decode cX1_leastBands 11 = .ok (.istore_n 2, 1) := by decide +kernel
theorem dX1_leastBands_12 : decode cX1_leastBands 12 = .ok (.iconst 0, 1) := by decide +kernel
theorem dX1_leastBands_13 : decode cX1_leastBands 13 = .ok (.istore_n 3, 1) := by decide +kernel
theorem dX1_leastBands_14 : decode cX1_leastBands 14 = .ok (.iload_n 3, 1) := by decide +kernel
theorem dX1_leastBands_15 : decode cX1_leastBands 15 = .ok (.iload_n 1, 1) := by decide +kernel
theorem dX1_leastBands_16 : decode cX1_leastBands 16 = .ok (.if_icmp .ge 19, 3) := by decide +kernel
theorem dX1_leastBands_19 : decode cX1_leastBands 19 = .ok (.iload_n 2, 1) := by decide +kernel
theorem dX1_leastBands_20 : decode cX1_leastBands 20 = .ok (.aload_n 0, 1) := by decide +kernel
theorem dX1_leastBands_21 : decode cX1_leastBands 21 = .ok (.iload_n 3, 1) := by decide +kernel
theorem dX1_leastBands_22 : decode cX1_leastBands 22 = .ok (.invokevirtual 92, 3) := by decide +kernel
theorem dX1_leastBands_25 : decode cX1_leastBands 25 = .ok (.invokestatic 81, 3) := by decide +kernel
theorem dX1_leastBands_28 : decode cX1_leastBands 28 = .ok (.istore_n 2, 1) := by decide +kernel
theorem dX1_leastBands_29 : decode cX1_leastBands 29 = .ok (.iinc 3 1, 3) := by decide +kernel
theorem dX1_leastBands_32 : decode cX1_leastBands 32 = .ok (.goto (-18), 3) := by decide +kernel
theorem dX1_leastBands_35 : decode cX1_leastBands 35 = .ok (.iload_n 2, 1) := by decide +kernel
theorem dX1_leastBands_36 : decode cX1_leastBands 36 = .ok (.ireturn, 1) := by decide +kernel
theorem dX1_lightOfShots_0 : decode cX1_lightOfShots 0 = .ok (.iconst 0, 1) := by decide +kernel
theorem dX1_lightOfShots_1 : decode cX1_lightOfShots 1 = .ok (.istore_n 2, 1) := by decide +kernel
theorem dX1_lightOfShots_2 : decode cX1_lightOfShots 2 = .ok (.iconst 0, 1) := by decide +kernel
theorem dX1_lightOfShots_3 : decode cX1_lightOfShots 3 = .ok (.istore_n 3, 1) := by decide +kernel
theorem dX1_lightOfShots_4 : decode cX1_lightOfShots 4 = .ok (.iload_n 3, 1) := by decide +kernel
theorem dX1_lightOfShots_5 : decode cX1_lightOfShots 5 = .ok (.iload_n 1, 1) := by decide +kernel
theorem dX1_lightOfShots_6 : decode cX1_lightOfShots 6 = .ok (.if_icmp .ge 17, 3) := by decide +kernel
theorem dX1_lightOfShots_9 : decode cX1_lightOfShots 9 = .ok (.iload_n 2, 1) := by decide +kernel
theorem dX1_lightOfShots_10 : decode cX1_lightOfShots 10 = .ok (.aload_n 0, 1) := by decide +kernel
theorem dX1_lightOfShots_11 : decode cX1_lightOfShots 11 = .ok (.iload_n 3, 1) := by decide +kernel
theorem dX1_lightOfShots_12 : decode cX1_lightOfShots 12 = .ok (.invokevirtual 95, 3) := by decide +kernel
theorem dX1_lightOfShots_15 : decode cX1_lightOfShots 15 = .ok (.iadd, 1) := by decide +kernel
theorem dX1_lightOfShots_16 : decode cX1_lightOfShots 16 = .ok (.istore_n 2, 1) := by decide +kernel
theorem dX1_lightOfShots_17 : decode cX1_lightOfShots 17 = .ok (.iinc 3 1, 3) := by decide +kernel
theorem dX1_lightOfShots_20 : decode cX1_lightOfShots 20 = .ok (.goto (-16), 3) := by decide +kernel
theorem dX1_lightOfShots_23 : decode cX1_lightOfShots 23 = .ok (.iload_n 2, 1) := by decide +kernel
theorem dX1_lightOfShots_24 : decode cX1_lightOfShots 24 = .ok (.ireturn, 1) := by decide +kernel
theorem dX1_fullRows_0 : decode cX1_fullRows 0 = .ok (.iconst 0, 1) := by decide +kernel
theorem dX1_fullRows_1 : decode cX1_fullRows 1 = .ok (.istore_n 2, 1) := by decide +kernel
theorem dX1_fullRows_2 : decode cX1_fullRows 2 = .ok (.iconst 0, 1) := by decide +kernel
theorem dX1_fullRows_3 : decode cX1_fullRows 3 = .ok (.istore_n 3, 1) := by decide +kernel
theorem dX1_fullRows_4 : decode cX1_fullRows 4 = .ok (.iload_n 3, 1) := by decide +kernel
theorem dX1_fullRows_5 : decode cX1_fullRows 5 = .ok (.iload_n 1, 1) := by decide +kernel
theorem dX1_fullRows_6 : decode cX1_fullRows 6 = .ok (.if_icmp .ge 50, 3) := by decide +kernel
theorem dX1_fullRows_9 : decode cX1_fullRows 9 = .ok (.iconst 0, 1) := by decide +kernel
theorem dX1_fullRows_10 : decode cX1_fullRows 10 = .ok (.istore 4, 2) := by decide +kernel
theorem dX1_fullRows_12 : decode cX1_fullRows 12 = .ok (.iload 4, 2) := by decide +kernel
theorem dX1_fullRows_14 : decode cX1_fullRows 14 = .ok (.aload_n 0, 1) := by decide +kernel
theorem dX1_fullRows_15 : decode cX1_fullRows 15 = .ok (.getfield 17, 3) := by decide +kernel
theorem dX1_fullRows_18 : decode cX1_fullRows 18 = .ok (.iconst 0, 1) := by decide +kernel
theorem dX1_fullRows_19 : decode cX1_fullRows 19 = .ok (.iaload, 1) := by decide +kernel
theorem dX1_fullRows_20 : decode cX1_fullRows 20 = .ok (.if_icmp .ge 30, 3) := by decide +kernel
theorem dX1_fullRows_23 : decode cX1_fullRows 23 = .ok (.iload_n 2, 1) := by decide +kernel
theorem dX1_fullRows_24 : decode cX1_fullRows 24 = .ok (.aload_n 0, 1) := by decide +kernel
theorem dX1_fullRows_25 : decode cX1_fullRows 25 = .ok (.iload_n 3, 1) := by decide +kernel
theorem dX1_fullRows_26 : decode cX1_fullRows 26 = .ok (.iload 4, 2) := by decide +kernel
theorem dX1_fullRows_28 : decode cX1_fullRows 28 = .ok (.invokevirtual 86, 3) := by decide +kernel
theorem dX1_fullRows_31 : decode cX1_fullRows 31 = .ok (.sipush 255, 3) := by decide +kernel
theorem dX1_fullRows_34 : decode cX1_fullRows 34 = .ok (.if_icmp .ne 7, 3) := by decide +kernel
theorem dX1_fullRows_37 : decode cX1_fullRows 37 = .ok (.iconst 1, 1) := by decide +kernel
theorem dX1_fullRows_38 : decode cX1_fullRows 38 = .ok (.goto 4, 3) := by decide +kernel
theorem dX1_fullRows_41 : decode cX1_fullRows 41 = .ok (.iconst 0, 1) := by decide +kernel
theorem dX1_fullRows_42 : decode cX1_fullRows 42 = .ok (.iadd, 1) := by decide +kernel
theorem dX1_fullRows_43 : decode cX1_fullRows 43 = .ok (.istore_n 2, 1) := by decide +kernel
theorem dX1_fullRows_44 : decode cX1_fullRows 44 = .ok (.iinc 4 1, 3) := by decide +kernel
theorem dX1_fullRows_47 : decode cX1_fullRows 47 = .ok (.goto (-35), 3) := by decide +kernel
theorem dX1_fullRows_50 : decode cX1_fullRows 50 = .ok (.iinc 3 1, 3) := by decide +kernel
theorem dX1_fullRows_53 : decode cX1_fullRows 53 = .ok (.goto (-49), 3) := by decide +kernel
theorem dX1_fullRows_56 : decode cX1_fullRows 56 = .ok (.iload_n 2, 1) := by decide +kernel
theorem dX1_fullRows_57 : decode cX1_fullRows 57 = .ok (.ireturn, 1) := by decide +kernel
theorem dX1_take_0 : decode cX1_take 0 = .ok (.iload_n 1, 1) := by decide +kernel
theorem dX1_take_1 : decode cX1_take 1 = .ok (.iconst 1, 1) := by decide +kernel
theorem dX1_take_2 : decode cX1_take 2 = .ok (.if_icmp .ge 4, 3) := by decide +kernel
theorem dX1_take_5 : decode cX1_take 5 = .ok (.return_, 1) := by decide +kernel
theorem dX1_take_6 : decode cX1_take 6 = .ok (.aload_n 0, 1) := by decide +kernel
theorem dX1_take_7 : decode cX1_take 7 = .ok (.aload_n 0, 1) := by decide +kernel
theorem dX1_take_8 : decode cX1_take 8 = .ok (.getfield 17, 3) := by decide +kernel
theorem dX1_take_11 : decode cX1_take 11 = .ok (.iconst 0, 1) := by decide +kernel
theorem dX1_take_12 : decode cX1_take 12 = .ok (.iaload, 1) := by decide +kernel
theorem dX1_take_13 : decode cX1_take 13 = .ok (.putfield 53, 3) := by decide +kernel
theorem dX1_take_16 : decode cX1_take 16 = .ok (.iconst 0, 1) := by decide +kernel
theorem dX1_take_17 : decode cX1_take 17 = .ok (.istore_n 2, 1) := by decide +kernel
theorem dX1_take_18 : decode cX1_take 18 = .ok (.iload_n 2, 1) := by decide +kernel
theorem dX1_take_19 : decode cX1_take 19 = .ok (.aload_n 0, 1) := by decide +kernel
theorem dX1_take_20 : decode cX1_take 20 = .ok (.getfield 53, 3) := by decide +kernel
theorem dX1_take_23 : decode cX1_take 23 = .ok (.if_icmp .ge 23, 3) := by decide +kernel
theorem dX1_take_26 : decode cX1_take 26 = .ok (.aload_n 0, 1) := by decide +kernel
theorem dX1_take_27 : decode cX1_take 27 = .ok (.getfield 21, 3) := by decide +kernel
theorem dX1_take_30 : decode cX1_take 30 = .ok (.iload_n 2, 1) := by decide +kernel
theorem dX1_take_31 : decode cX1_take 31 = .ok (.aload_n 0, 1) := by decide +kernel
theorem dX1_take_32 : decode cX1_take 32 = .ok (.iload_n 1, 1) := by decide +kernel
theorem dX1_take_33 : decode cX1_take 33 = .ok (.iconst 1, 1) := by decide +kernel
theorem dX1_take_34 : decode cX1_take 34 = .ok (.isub, 1) := by decide +kernel
theorem dX1_take_35 : decode cX1_take 35 = .ok (.iload_n 2, 1) := by decide +kernel
theorem dX1_take_36 : decode cX1_take 36 = .ok (.invokevirtual 86, 3) := by decide +kernel
theorem dX1_take_39 : decode cX1_take 39 = .ok (.iastore, 1) := by decide +kernel
theorem dX1_take_40 : decode cX1_take 40 = .ok (.iinc 2 1, 3) := by decide +kernel
theorem dX1_take_43 : decode cX1_take 43 = .ok (.goto (-25), 3) := by decide +kernel
theorem dX1_take_46 : decode cX1_take 46 = .ok (.aload_n 0, 1) := by decide +kernel
theorem dX1_take_47 : decode cX1_take 47 = .ok (.aload_n 0, 1) := by decide +kernel
theorem dX1_take_48 : decode cX1_take 48 = .ok (.iload_n 1, 1) := by decide +kernel
theorem dX1_take_49 : decode cX1_take 49 = .ok (.invokevirtual 77, 3) := by decide +kernel
theorem dX1_take_52 : decode cX1_take 52 = .ok (.putfield 47, 3) := by decide +kernel
theorem dX1_take_55 : decode cX1_take 55 = .ok (.aload_n 0, 1) := by decide +kernel
theorem dX1_take_56 : decode cX1_take 56 = .ok (.dup, 1) := by decide +kernel
theorem dX1_take_57 : decode cX1_take 57 = .ok (.getfield 50, 3) := by decide +kernel
theorem dX1_take_60 : decode cX1_take 60 = .ok (.iload_n 1, 1) := by decide +kernel
theorem dX1_take_61 : decode cX1_take 61 = .ok (.iadd, 1) := by decide +kernel
theorem dX1_take_62 : decode cX1_take 62 = .ok (.putfield 50, 3) := by decide +kernel
theorem dX1_take_65 : decode cX1_take 65 = .ok (.return_, 1) := by decide +kernel
theorem dX1_isAsSeen_0 : decode cX1_isAsSeen 0 = .ok (.iconst 0, 1) := by decide +kernel
theorem dX1_isAsSeen_1 : decode cX1_isAsSeen 1 = .ok (.istore_n 1, 1) := by decide +kernel
theorem dX1_isAsSeen_2 : decode cX1_isAsSeen 2 = .ok (.iload_n 1, 1) := by decide +kernel
theorem dX1_isAsSeen_3 : decode cX1_isAsSeen 3 = .ok (.aload_n 0, 1) := by decide +kernel
theorem dX1_isAsSeen_4 : decode cX1_isAsSeen 4 = .ok (.getfield 56, 3) := by decide +kernel
theorem dX1_isAsSeen_7 : decode cX1_isAsSeen 7 = .ok (.if_icmp .ge 51, 3) := by decide +kernel
theorem dX1_isAsSeen_10 : decode cX1_isAsSeen 10 = .ok (.aload_n 0, 1) := by decide +kernel
theorem dX1_isAsSeen_11 : decode cX1_isAsSeen 11 = .ok (.getfield 27, 3) := by decide +kernel
theorem dX1_isAsSeen_14 : decode cX1_isAsSeen 14 = .ok (.iload_n 1, 1) := by decide +kernel
theorem dX1_isAsSeen_15 : decode cX1_isAsSeen 15 = .ok (.iaload, 1) := by decide +kernel
theorem dX1_isAsSeen_16 : decode cX1_isAsSeen 16 = .ok (.aload_n 0, 1) := by decide +kernel
theorem dX1_isAsSeen_17 : decode cX1_isAsSeen 17 = .ok (.getfield 17, 3) := by decide +kernel
theorem dX1_isAsSeen_20 : decode cX1_isAsSeen 20 = .ok (.iconst 0, 1) := by decide +kernel
theorem dX1_isAsSeen_21 : decode cX1_isAsSeen 21 = .ok (.iaload, 1) := by decide +kernel
theorem dX1_isAsSeen_22 : decode cX1_isAsSeen 22 = .ok (.if_icmp .ge 28, 3) := by decide +kernel
theorem dX1_isAsSeen_25 : decode cX1_isAsSeen 25 = .ok (.aload_n 0, 1) := by decide +kernel
theorem dX1_isAsSeen_26 : decode cX1_isAsSeen 26 = .ok (.aload_n 0, 1) := by decide +kernel
theorem dX1_isAsSeen_27 : decode cX1_isAsSeen 27 = .ok (.getfield 24, 3) := by decide +kernel
theorem dX1_isAsSeen_30 : decode cX1_isAsSeen 30 = .ok (.iload_n 1, 1) := by decide +kernel
theorem dX1_isAsSeen_31 : decode cX1_isAsSeen 31 = .ok (.iaload, 1) := by decide +kernel
theorem dX1_isAsSeen_32 : decode cX1_isAsSeen 32 = .ok (.aload_n 0, 1) := by decide +kernel
theorem dX1_isAsSeen_33 : decode cX1_isAsSeen 33 = .ok (.getfield 27, 3) := by decide +kernel
theorem dX1_isAsSeen_36 : decode cX1_isAsSeen 36 = .ok (.iload_n 1, 1) := by decide +kernel
theorem dX1_isAsSeen_37 : decode cX1_isAsSeen 37 = .ok (.iaload, 1) := by decide +kernel
theorem dX1_isAsSeen_38 : decode cX1_isAsSeen 38 = .ok (.invokevirtual 86, 3) := by decide +kernel
theorem dX1_isAsSeen_41 : decode cX1_isAsSeen 41 = .ok (.aload_n 0, 1) := by decide +kernel
theorem dX1_isAsSeen_42 : decode cX1_isAsSeen 42 = .ok (.getfield 30, 3) := by decide +kernel
theorem dX1_isAsSeen_45 : decode cX1_isAsSeen 45 = .ok (.iload_n 1, 1) := by decide +kernel
theorem dX1_isAsSeen_46 : decode cX1_isAsSeen 46 = .ok (.iaload, 1) := by decide +kernel
theorem dX1_isAsSeen_47 : decode cX1_isAsSeen 47 = .ok (.if_icmp .eq 5, 3) := by decide +kernel
theorem dX1_isAsSeen_50 : decode cX1_isAsSeen 50 = .ok (.iconst 0, 1) := by decide +kernel
theorem dX1_isAsSeen_51 : decode cX1_isAsSeen 51 = .ok (.ireturn, 1) := by decide +kernel
theorem dX1_isAsSeen_52 : decode cX1_isAsSeen 52 = .ok (.iinc 1 1, 3) := by decide +kernel
theorem dX1_isAsSeen_55 : decode cX1_isAsSeen 55 = .ok (.goto (-53), 3) := by decide +kernel
theorem dX1_isAsSeen_58 : decode cX1_isAsSeen 58 = .ok (.iconst 1, 1) := by decide +kernel
theorem dX1_isAsSeen_59 : decode cX1_isAsSeen 59 = .ok (.ireturn, 1) := by decide +kernel
theorem dX2_init_0 : decode cX2_init 0 = .ok (.aload_n 0, 1) := by decide +kernel
theorem dX2_init_1 : decode cX2_init 1 = .ok (.invokespecial 3, 3) := by decide +kernel
theorem dX2_init_4 : decode cX2_init 4 = .ok (.aload_n 0, 1) := by decide +kernel
theorem dX2_init_5 : decode cX2_init 5 = .ok (.bipush 40, 2) := by decide +kernel
theorem dX2_init_7 : decode cX2_init 7 = .ok (.newarray .int, 2) := by decide +kernel
theorem dX2_init_9 : decode cX2_init 9 = .ok (.putfield 9, 3) := by decide +kernel
theorem dX2_init_12 : decode cX2_init 12 = .ok (.aload_n 0, 1) := by decide +kernel
theorem dX2_init_13 : decode cX2_init 13 = .ok (.iconst (-1), 1) := by decide +kernel
theorem dX2_init_14 : decode cX2_init 14 = .ok (.putfield 15, 3) := by decide +kernel
theorem dX2_init_17 : decode cX2_init 17 = .ok (.return_, 1) := by decide +kernel
theorem dX2_renew_0 : decode cX2_renew 0 = .ok (.aload_n 0, 1) := by decide +kernel
theorem dX2_renew_1 : decode cX2_renew 1 = .ok (.getfield 9, 3) := by decide +kernel
theorem dX2_renew_4 : decode cX2_renew 4 = .ok (.iconst 0, 1) := by decide +kernel
theorem dX2_renew_5 : decode cX2_renew 5 = .ok (.invokestatic 19, 3) := by decide +kernel
theorem dX2_renew_8 : decode cX2_renew 8 = .ok (.aload_n 0, 1) := by decide +kernel
theorem dX2_renew_9 : decode cX2_renew 9 = .ok (.iload_n 1, 1) := by decide +kernel
theorem dX2_renew_10 : decode cX2_renew 10 = .ok (.putfield 15, 3) := by decide +kernel
theorem dX2_renew_13 : decode cX2_renew 13 = .ok (.aload_n 0, 1) := by decide +kernel
theorem dX2_renew_14 : decode cX2_renew 14 = .ok (.iload_n 2, 1) := by decide +kernel
theorem dX2_renew_15 : decode cX2_renew 15 = .ok (.putfield 25, 3) := by decide +kernel
theorem dX2_renew_18 : decode cX2_renew 18 = .ok (.return_, 1) := by decide +kernel
theorem dX2_faultAt_0 : decode cX2_faultAt 0 = .ok (.aload_n 0, 1) := by decide +kernel
theorem dX2_faultAt_1 : decode cX2_faultAt 1 = .ok (.getfield 15, 3) := by decide +kernel
theorem dX2_faultAt_4 : decode cX2_faultAt 4 = .ok (.iconst (-1), 1) := by decide +kernel
theorem dX2_faultAt_5 : decode cX2_faultAt 5 = .ok (.if_icmp .ne 5, 3) := by decide +kernel
theorem dX2_faultAt_8 : decode cX2_faultAt 8 = .ok (.iconst 1, 1) := by decide +kernel
theorem dX2_faultAt_9 : decode cX2_faultAt 9 = .ok (.ireturn, 1) := by decide +kernel
theorem dX2_faultAt_10 : decode cX2_faultAt 10 = .ok (.iload_n 1, 1) := by decide +kernel
theorem dX2_faultAt_11 : decode cX2_faultAt 11 = .ok (.ifCond .lt 11, 3) := by decide +kernel
theorem dX2_faultAt_14 : decode cX2_faultAt 14 = .ok (.iload_n 1, 1) := by decide +kernel
theorem dX2_faultAt_15 : decode cX2_faultAt 15 = .ok (.aload_n 0, 1) := by decide +kernel
theorem dX2_faultAt_16 : decode cX2_faultAt 16 = .ok (.getfield 25, 3) := by decide +kernel
theorem dX2_faultAt_19 : decode cX2_faultAt 19 = .ok (.if_icmp .lt 7, 3) := by decide +kernel
theorem dX2_faultAt_22 : decode cX2_faultAt 22 = .ok (.iconst 2, 1) := by decide +kernel
theorem dX2_faultAt_23 : decode cX2_faultAt 23 = .ok (.goto 4, 3) := by decide +kernel
theorem dX2_faultAt_26 : decode cX2_faultAt 26 = .ok (.iconst 0, 1) := by decide +kernel
theorem dX2_faultAt_27 : decode cX2_faultAt 27 = .ok (.ireturn, 1) := by decide +kernel
theorem dX2_faultOfPair_0 : decode cX2_faultOfPair 0 = .ok (.aload_n 0, 1) := by decide +kernel
theorem dX2_faultOfPair_1 : decode cX2_faultOfPair 1 = .ok (.getfield 15, 3) := by decide +kernel
theorem dX2_faultOfPair_4 : decode cX2_faultOfPair 4 = .ok (.iconst (-1), 1) := by decide +kernel
theorem dX2_faultOfPair_5 : decode cX2_faultOfPair 5 = .ok (.if_icmp .eq 13, 3) := by decide +kernel
theorem dX2_faultOfPair_8 : decode cX2_faultOfPair 8 = .ok (.aload_n 0, 1) := by decide +kernel
theorem dX2_faultOfPair_9 : decode cX2_faultOfPair 9 = .ok (.getfield 15, 3) := by decide +kernel
theorem dX2_faultOfPair_12 : decode cX2_faultOfPair 12 = .ok (.iload_n 1, 1) := by decide +kernel
theorem dX2_faultOfPair_13 : decode cX2_faultOfPair 13 = .ok (.if_icmp .eq 5, 3) := by decide +kernel
theorem dX2_faultOfPair_16 : decode cX2_faultOfPair 16 = .ok (.iconst 3, 1) := by decide +kernel
theorem dX2_faultOfPair_17 : decode cX2_faultOfPair 17 = .ok (.ireturn, 1) := by decide +kernel
theorem dX2_faultOfPair_18 : decode cX2_faultOfPair 18 = .ok (.aload_n 0, 1) := by decide +kernel
theorem dX2_faultOfPair_19 : decode cX2_faultOfPair 19 = .ok (.iload_n 2, 1) := by decide +kernel
theorem dX2_faultOfPair_20 : decode cX2_faultOfPair 20 = .ok (.invokevirtual 28, 3) := by decide +kernel
theorem dX2_faultOfPair_23 : decode cX2_faultOfPair 23 = .ok (.istore_n 3, 1) := by decide +kernel
theorem dX2_faultOfPair_24 : decode cX2_faultOfPair 24 = .ok (.iload_n 3, 1) := by decide +kernel
theorem dX2_faultOfPair_25 : decode cX2_faultOfPair 25 = .ok (.ifCond .eq 7, 3) := by decide +kernel
theorem dX2_faultOfPair_28 : decode cX2_faultOfPair 28 = .ok (.iload_n 3, 1) := by decide +kernel
theorem dX2_faultOfPair_29 : decode cX2_faultOfPair 29 = .ok (.goto 10, 3) := by decide +kernel
theorem dX2_faultOfPair_32 : decode cX2_faultOfPair 32 = .ok (.aload_n 0, 1) := by decide +kernel
theorem dX2_faultOfPair_33 : decode cX2_faultOfPair 33 = .ok (.iload_n 2, 1) := by decide +kernel
theorem dX2_faultOfPair_34 : decode cX2_faultOfPair 34 = .ok (.iconst 1, 1) := by decide +kernel
theorem dX2_faultOfPair_35 : decode cX2_faultOfPair 35 = .ok (.iadd, 1) := by decide +kernel
theorem dX2_faultOfPair_36 : decode cX2_faultOfPair 36 = .ok (.invokevirtual 28, 3) := by decide +kernel
theorem dX2_faultOfPair_39 : decode cX2_faultOfPair 39 = .ok (.ireturn, 1) := by decide +kernel
theorem dX2_store_0 : decode cX2_store 0 = .ok (.aload_n 0, 1) := by decide +kernel
theorem dX2_store_1 : decode cX2_store 1 = .ok (.iload_n 1, 1) := by decide +kernel
theorem dX2_store_2 : decode cX2_store 2 = .ok (.invokevirtual 28, 3) := by decide +kernel
theorem dX2_store_5 : decode cX2_store 5 = .ok (.ifCond .eq 4, 3) := by decide +kernel
theorem dX2_store_8 : decode cX2_store 8 = .ok (.return_, 1) := by decide +kernel
theorem dX2_store_9 : decode cX2_store 9 = .ok (.aload_n 0, 1) := by decide +kernel
theorem dX2_store_10 : decode cX2_store 10 = .ok (.getfield 15, 3) := by decide +kernel
theorem dX2_store_13 : decode cX2_store 13 = .ok (.lookupswitch 49 #[(0, 27), (1, 38)], 27) := by decide +kernel
theorem dX2_store_40 : decode cX2_store 40 = .ok (.aload_n 0, 1) := by decide +kernel
theorem dX2_store_41 : decode cX2_store 41 = .ok (.getfield 9, 3) := by decide +kernel
theorem dX2_store_44 : decode cX2_store 44 = .ok (.iload_n 1, 1) := by decide +kernel
theorem dX2_store_45 : decode cX2_store 45 = .ok (.iload_n 2, 1) := by decide +kernel
theorem dX2_store_46 : decode cX2_store 46 = .ok (.i2b, 1) := by decide +kernel
theorem dX2_store_47 : decode cX2_store 47 = .ok (.iastore, 1) := by decide +kernel
theorem dX2_store_48 : decode cX2_store 48 = .ok (.goto 21, 3) := by decide +kernel
theorem dX2_store_51 : decode cX2_store 51 = .ok (.aload_n 0, 1) := by decide +kernel
theorem dX2_store_52 : decode cX2_store 52 = .ok (.getfield 9, 3) := by decide +kernel
theorem dX2_store_55 : decode cX2_store 55 = .ok (.iload_n 1, 1) := by decide +kernel
theorem dX2_store_56 : decode cX2_store 56 = .ok (.iload_n 2, 1) := by decide +kernel
theorem dX2_store_57 : decode cX2_store 57 = .ok (.i2s, 1) := by decide +kernel
theorem dX2_store_58 : decode cX2_store 58 = .ok (.iastore, 1) := by decide +kernel
theorem dX2_store_59 : decode cX2_store 59 = .ok (.goto 10, 3) := by decide +kernel
theorem dX2_store_62 : decode cX2_store 62 = .ok (.aload_n 0, 1) := by decide +kernel
theorem dX2_store_63 : decode cX2_store 63 = .ok (.getfield 9, 3) := by decide +kernel
theorem dX2_store_66 : decode cX2_store 66 = .ok (.iload_n 1, 1) := by decide +kernel
theorem dX2_store_67 : decode cX2_store 67 = .ok (.iload_n 2, 1) := by decide +kernel
theorem dX2_store_68 : decode cX2_store 68 = .ok (.iastore, 1) := by decide +kernel
theorem dX2_store_69 : decode cX2_store 69 = .ok (.return_, 1) := by decide +kernel
theorem dX3_init_0 : decode cX3_init 0 = .ok (.aload_n 0, 1) := by decide +kernel
theorem dX3_init_1 : decode cX3_init 1 = .ok (.invokespecial 3, 3) := by decide +kernel
theorem dX3_init_4 : decode cX3_init 4 = .ok (.aload_n 0, 1) := by decide +kernel
theorem dX3_init_5 : decode cX3_init 5 = .ok (.sipush 160, 3) := by decide +kernel
theorem dX3_init_8 : decode cX3_init 8 = .ok (.newarray .byte, 2) := by decide +kernel
theorem dX3_init_10 : decode cX3_init 10 = .ok (.putfield 9, 3) := by decide +kernel
theorem dX3_init_13 : decode cX3_init 13 = .ok (.return_, 1) := by decide +kernel
theorem dX3_append_0 : decode cX3_append 0 = .ok (.aload_n 0, 1) := by decide +kernel
theorem dX3_append_1 : decode cX3_append 1 = .ok (.getfield 15, 3) := by decide +kernel
theorem dX3_append_4 : decode cX3_append 4 = .ok (.sipush 160, 3) := by decide +kernel
theorem dX3_append_7 : decode cX3_append 7 = .ok (.if_icmp .lt 5, 3) := by decide +kernel
theorem dX3_append_10 : decode cX3_append 10 = .ok (.iconst 0, 1) := by decide +kernel
theorem dX3_append_11 : decode cX3_append 11 = .ok (.ireturn, 1) := by decide +kernel
theorem dX3_append_12 : decode cX3_append 12 = .ok (.aload_n 0, 1) := by decide +kernel
theorem dX3_append_13 : decode cX3_append 13 = .ok (.getfield 9, 3) := by decide +kernel
theorem dX3_append_16 : decode cX3_append 16 = .ok (.aload_n 0, 1) := by decide +kernel
theorem dX3_append_17 : decode cX3_append 17 = .ok (.getfield 15, 3) := by decide +kernel
theorem dX3_append_20 : decode cX3_append 20 = .ok (.iload_n 1, 1) := by decide +kernel
theorem dX3_append_21 : decode cX3_append 21 = .ok (.i2b, 1) := by decide +kernel
theorem dX3_append_22 : decode cX3_append 22 = .ok (.bastore, 1) := by decide +kernel
theorem dX3_append_23 : decode cX3_append 23 = .ok (.aload_n 0, 1) := by decide +kernel
theorem dX3_append_24 : decode cX3_append 24 = .ok (.dup, 1) := by decide +kernel
theorem dX3_append_25 : decode cX3_append 25 = .ok (.getfield 15, 3) := by decide +kernel
theorem dX3_append_28 : decode cX3_append 28 = .ok (.iconst 1, 1) := by decide +kernel
theorem dX3_append_29 : decode cX3_append 29 = .ok (.iadd, 1) := by decide +kernel
theorem dX3_append_30 : decode cX3_append 30 = .ok (.putfield 15, 3) := by decide +kernel
theorem dX3_append_33 : decode cX3_append 33 = .ok (.iconst 1, 1) := by decide +kernel
theorem dX3_append_34 : decode cX3_append 34 = .ok (.ireturn, 1) := by decide +kernel
theorem dX3_readInto_0 : decode cX3_readInto 0 = .ok (.aload_n 1, 1) := by decide +kernel
theorem dX3_readInto_1 : decode cX3_readInto 1 = .ok (.invokevirtual 19, 3) := by decide +kernel
theorem dX3_readInto_4 : decode cX3_readInto 4 = .ok (.aload_n 0, 1) := by decide +kernel
theorem dX3_readInto_5 : decode cX3_readInto 5 = .ok (.iconst 0, 1) := by decide +kernel
theorem dX3_readInto_6 : decode cX3_readInto 6 = .ok (.putfield 24, 3) := by decide +kernel
theorem dX3_readInto_9 : decode cX3_readInto 9 = .ok (.aload_n 0, 1) := by decide +kernel
theorem dX3_readInto_10 : decode cX3_readInto 10 = .ok (.iconst 0, 1) := by decide +kernel
theorem dX3_readInto_11 : decode cX3_readInto 11 = .ok (.putfield 27, 3) := by decide +kernel
theorem dX3_readInto_14 : decode cX3_readInto 14 = .ok (.aload_n 0, 1) := by decide +kernel
theorem dX3_readInto_15 : decode cX3_readInto 15 = .ok (.iconst 0, 1) := by decide +kernel
theorem dX3_readInto_16 : decode cX3_readInto 16 = .ok (.putfield 30, 3) := by decide +kernel
theorem dX3_readInto_19 : decode cX3_readInto 19 = .ok (.aload_n 0, 1) := by decide +kernel
theorem dX3_readInto_20 : decode cX3_readInto 20 = .ok (.invokevirtual 33, 3) := by decide +kernel
theorem dX3_readInto_23 : decode cX3_readInto 23 = .ok (.iconst 0, 1) := by decide +kernel
theorem dX3_readInto_24 : decode cX3_readInto 24 = .ok (.istore_n 2, 1) := by decide +kernel
theorem dX3_readInto_25 : decode cX3_readInto 25 = .ok (.iload_n 2, 1) := by decide +kernel
theorem dX3_readInto_26 : decode cX3_readInto 26 = .ok (.sipush 160, 3) := by decide +kernel
theorem dX3_readInto_29 : decode cX3_readInto 29 = .ok (.if_icmp .ge 40, 3) := by decide +kernel
theorem dX3_readInto_32 : decode cX3_readInto 32 = .ok (.aload_n 0, 1) := by decide +kernel
theorem dX3_readInto_33 : decode cX3_readInto 33 = .ok (.getfield 30, 3) := by decide +kernel
theorem dX3_readInto_36 : decode cX3_readInto 36 = .ok (.ifCond .ne 33, 3) := by decide +kernel
theorem dX3_readInto_39 : decode cX3_readInto 39 = .ok (.aload_n 0, 1) := by decide +kernel
theorem dX3_readInto_40 : decode cX3_readInto 40 = .ok (.getfield 36, 3) := by decide +kernel
theorem dX3_readInto_43 : decode cX3_readInto 43 = .ok (.iconst 3, 1) := by decide +kernel
theorem dX3_readInto_44 : decode cX3_readInto 44 = .ok (.if_icmp .eq 25, 3) := by decide +kernel
theorem dX3_readInto_47 : decode cX3_readInto 47 = .ok (.aload_n 0, 1) := by decide +kernel
theorem dX3_readInto_48 : decode cX3_readInto 48 = .ok (.aload_n 1, 1) := by decide +kernel
theorem dX3_readInto_49 : decode cX3_readInto 49 = .ok (.invokevirtual 39, 3) := by decide +kernel
theorem dX3_readInto_52 : decode cX3_readInto 52 = .ok (.aload_n 0, 1) := by decide +kernel
theorem dX3_readInto_53 : decode cX3_readInto 53 = .ok (.getfield 30, 3) := by decide +kernel
theorem dX3_readInto_56 : decode cX3_readInto 56 = .ok (.ifCond .ne 7, 3) := by decide +kernel
theorem dX3_readInto_59 : decode cX3_readInto 59 = .ok (.aload_n 0, 1) := by decide +kernel
theorem dX3_readInto_60 : decode cX3_readInto 60 = .ok (.invokevirtual 33, 3) := by decide +kernel
theorem dX3_readInto_63 : decode cX3_readInto 63 = .ok (.iinc 2 1, 3) := by decide +kernel
theorem dX3_readInto_66 : decode cX3_readInto 66 = .ok (.goto (-41), 3) := by decide +kernel
theorem dX3_readInto_69 : decode cX3_readInto 69 = .ok (.aload_n 0, 1) := by decide +kernel
theorem dX3_readInto_70 : decode cX3_readInto 70 = .ok (.getfield 30, 3) := by decide +kernel
theorem dX3_readInto_73 : decode cX3_readInto 73 = .ok (.ifCond .ne 7, 3) := by decide +kernel
theorem dX3_readInto_76 : decode cX3_readInto 76 = .ok (.iload_n 2, 1) := by decide +kernel
theorem dX3_readInto_77 : decode cX3_readInto 77 = .ok (.goto 10, 3) := by decide +kernel
theorem dX3_readInto_80 : decode cX3_readInto 80 = .ok (.bipush (-10), 2) := by decide +kernel
theorem dX3_readInto_82 : decode cX3_readInto 82 = .ok (.aload_n 0, 1) := by decide +kernel
theorem dX3_readInto_83 : decode cX3_readInto 83 = .ok (.getfield 43, 3) := by decide +kernel
theorem dX3_readInto_86 : decode cX3_readInto 86 = .ok (.isub, 1) := by decide +kernel
theorem dX3_readInto_87 : decode cX3_readInto 87 = .ok (.ireturn, 1) := by decide +kernel
theorem dX3_readLine_0 : decode cX3_readLine 0 = .ok (.aload_n 0, 1) := by decide +kernel
theorem dX3_readLine_1 : decode cX3_readLine 1 = .ok (.invokevirtual 46, 3) := by decide +kernel
theorem dX3_readLine_4 : decode cX3_readLine 4 = .ok (.istore_n 2, 1) := by decide +kernel
theorem dX3_readLine_5 : decode cX3_readLine 5 = .ok (.iload_n 2, 1) := by decide +kernel
theorem dX3_readLine_6 : decode cX3_readLine 6 = .ok (.ifCond .ge 11, 3) := by decide +kernel
theorem dX3_readLine_9 : decode cX3_readLine 9 = .ok (.aload_n 0, 1) := by decide +kernel
theorem dX3_readLine_10 : decode cX3_readLine 10 = .ok (.iconst 2, 1) := by decide +kernel
theorem dX3_readLine_11 : decode cX3_readLine 11 = .ok (.putfield 30, 3) := by decide +kernel
theorem dX3_readLine_14 : decode cX3_readLine 14 = .ok (.goto 25, 3) := by decide +kernel
theorem dX3_readLine_17 : decode cX3_readLine 17 = .ok (.iload_n 2, 1) := by decide +kernel
theorem dX3_readLine_18 : decode cX3_readLine 18 = .ok (.iconst 4, 1) := by decide +kernel
theorem dX3_readLine_19 : decode cX3_readLine 19 = .ok (.if_icmp .ge 12, 3) := by decide +kernel
theorem dX3_readLine_22 : decode cX3_readLine 22 = .ok (.aload_n 0, 1) := by decide +kernel
theorem dX3_readLine_23 : decode cX3_readLine 23 = .ok (.aload_n 1, 1) := by decide +kernel
theorem dX3_readLine_24 : decode cX3_readLine 24 = .ok (.iload_n 2, 1) := by decide +kernel
theorem dX3_readLine_25 : decode cX3_readLine 25 = .ok (.invokevirtual 50, 3) := by decide +kernel
theorem dX3_readLine_28 : decode cX3_readLine 28 = .ok (.goto 11, 3) := by decide +kernel
theorem dX3_readLine_31 : decode cX3_readLine 31 = .ok (.aload_n 0, 1) := by decide +kernel
theorem dX3_readLine_32 : decode cX3_readLine 32 = .ok (.aload_n 1, 1) := by decide +kernel
theorem dX3_readLine_33 : decode cX3_readLine 33 = .ok (.iload_n 2, 1) := by decide +kernel
theorem dX3_readLine_34 : decode cX3_readLine 34 = .ok (.iconst 4, 1) := by decide +kernel
theorem dX3_readLine_35 : decode cX3_readLine 35 = .ok (.isub, 1) := by decide +kernel
theorem dX3_readLine_36 : decode cX3_readLine 36 = .ok (.invokevirtual 54, 3) := by decide +kernel
theorem dX3_readLine_39 : decode cX3_readLine 39 = .ok (.aload_n 0, 1) := by decide +kernel
theorem dX3_readLine_40 : decode cX3_readLine 40 = .ok (.getfield 30, 3) := by decide +kernel
theorem dX3_readLine_43 : decode cX3_readLine 43 = .ok (.ifCond .ne 7, 3) := by decide +kernel
theorem dX3_readLine_46 : decode cX3_readLine 46 = .ok (.aload_n 0, 1) := by decide +kernel
theorem dX3_readLine_47 : decode cX3_readLine 47 = .ok (.invokevirtual 33, 3) := by decide +kernel
theorem dX3_readLine_50 : decode cX3_readLine 50 = .ok (.aload_n 0, 1) := by decide +kernel
theorem dX3_readLine_51 : decode cX3_readLine 51 = .ok (.getfield 30, 3) := by decide +kernel
theorem dX3_readLine_54 : decode cX3_readLine 54 = .ok (.ifCond .ne 16, 3) := by decide +kernel
theorem dX3_readLine_57 : decode cX3_readLine 57 = .ok (.aload_n 0, 1) := by decide +kernel
theorem dX3_readLine_58 : decode cX3_readLine 58 = .ok (.getfield 36, 3) := by decide +kernel
theorem dX3_readLine_61 : decode cX3_readLine 61 = .ok (.iconst 2, 1) := by decide +kernel
theorem dX3_readLine_62 : decode cX3_readLine 62 = .ok (.if_icmp .eq 8, 3) := by decide +kernel
theorem dX3_readLine_65 : decode cX3_readLine 65 = .ok (.aload_n 0, 1) := by decide +kernel
theorem dX3_readLine_66 : decode cX3_readLine 66 = .ok (.iconst 2, 1) := by decide +kernel
theorem dX3_readLine_67 : decode cX3_readLine 67 = .ok (.putfield 30, 3) := by decide +kernel
theorem dX3_readLine_70 : decode cX3_readLine 70 = .ok (.return_, 1) := by decide +kernel
theorem dX3_readLamp_0 : decode cX3_readLamp 0 = .ok (.aload_n 1, 1) := by decide +kernel
theorem dX3_readLamp_1 : decode cX3_readLamp 1 = .ok (.getfield 57, 3) := by decide +kernel
theorem dX3_readLamp_4 : decode cX3_readLamp 4 = .ok (.iconst 4, 1) := by decide +kernel
theorem dX3_readLamp_5 : decode cX3_readLamp 5 = .ok (.if_icmp .lt 9, 3) := by decide +kernel
theorem dX3_readLamp_8 : decode cX3_readLamp 8 = .ok (.aload_n 0, 1) := by decide +kernel
theorem dX3_readLamp_9 : decode cX3_readLamp 9 = .ok (.iconst 5, 1) := by decide +kernel
theorem dX3_readLamp_10 : decode cX3_readLamp 10 = .ok (.putfield 30, 3) := by decide +kernel
theorem dX3_readLamp_13 : decode cX3_readLamp 13 = .ok (.return_, 1) := by decide +kernel
theorem dX3_readLamp_14 : decode cX3_readLamp 14 = .ok (.aload_n 0, 1) := by decide +kernel
theorem dX3_readLamp_15 : decode cX3_readLamp 15 = .ok (.getstatic 60, 3) := by decide +kernel
theorem dX3_readLamp_18 : decode cX3_readLamp 18 = .ok (.iconst 1, 1) := by decide +kernel
theorem dX3_readLamp_19 : decode cX3_readLamp 19 = .ok (.iaload, 1) := by decide +kernel
theorem dX3_readLamp_20 : decode cX3_readLamp 20 = .ok (.getstatic 64, 3) := by decide +kernel
theorem dX3_readLamp_23 : decode cX3_readLamp 23 = .ok (.iconst 1, 1) := by decide +kernel
theorem dX3_readLamp_24 : decode cX3_readLamp 24 = .ok (.iaload, 1) := by decide +kernel
theorem dX3_readLamp_25 : decode cX3_readLamp 25 = .ok (.invokevirtual 67, 3) := by decide +kernel
theorem dX3_readLamp_28 : decode cX3_readLamp 28 = .ok (.istore_n 3, 1) := by decide +kernel
theorem dX3_readLamp_29 : decode cX3_readLamp 29 = .ok (.aload_n 0, 1) := by decide +kernel
theorem dX3_readLamp_30 : decode cX3_readLamp 30 = .ok (.getstatic 60, 3) := by decide +kernel
theorem dX3_readLamp_33 : decode cX3_readLamp 33 = .ok (.iconst 2, 1) := by decide +kernel
theorem dX3_readLamp_34 : decode cX3_readLamp 34 = .ok (.iaload, 1) := by decide +kernel
theorem dX3_readLamp_35 : decode cX3_readLamp 35 = .ok (.getstatic 64, 3) := by decide +kernel
theorem dX3_readLamp_38 : decode cX3_readLamp 38 = .ok (.iconst 2, 1) := by decide +kernel
theorem dX3_readLamp_39 : decode cX3_readLamp 39 = .ok (.iaload, 1) := by decide +kernel
theorem dX3_readLamp_40 : decode cX3_readLamp 40 = .ok (.invokevirtual 67, 3) := by decide +kernel
theorem dX3_readLamp_43 : decode cX3_readLamp 43 = .ok (.istore 4, 2) := by decide +kernel
theorem dX3_readLamp_45 : decode cX3_readLamp 45 = .ok (.aload_n 0, 1) := by decide +kernel
theorem dX3_readLamp_46 : decode cX3_readLamp 46 = .ok (.getstatic 60, 3) := by decide +kernel
theorem dX3_readLamp_49 : decode cX3_readLamp 49 = .ok (.iconst 3, 1) := by decide +kernel
theorem dX3_readLamp_50 : decode cX3_readLamp 50 = .ok (.iaload, 1) := by decide +kernel
theorem dX3_readLamp_51 : decode cX3_readLamp 51 = .ok (.getstatic 64, 3) := by decide +kernel
theorem dX3_readLamp_54 : decode cX3_readLamp 54 = .ok (.iconst 3, 1) := by decide +kernel
theorem dX3_readLamp_55 : decode cX3_readLamp 55 = .ok (.iaload, 1) := by decide +kernel
theorem dX3_readLamp_56 : decode cX3_readLamp 56 = .ok (.invokevirtual 67, 3) := by decide +kernel
theorem dX3_readLamp_59 : decode cX3_readLamp 59 = .ok (.istore 5, 2) := by decide +kernel
theorem dX3_readLamp_61 : decode cX3_readLamp 61 = .ok (.aload_n 0, 1) := by decide +kernel
theorem dX3_readLamp_62 : decode cX3_readLamp 62 = .ok (.getfield 30, 3) := by decide +kernel
theorem dX3_readLamp_65 : decode cX3_readLamp 65 = .ok (.ifCond .ne 14, 3) := by decide +kernel
theorem dX3_readLamp_68 : decode cX3_readLamp 68 = .ok (.aload_n 1, 1) := by decide +kernel
theorem dX3_readLamp_69 : decode cX3_readLamp 69 = .ok (.iload_n 2, 1) := by decide +kernel
theorem dX3_readLamp_70 : decode cX3_readLamp 70 = .ok (.iload_n 3, 1) := by decide +kernel
theorem dX3_readLamp_71 : decode cX3_readLamp 71 = .ok (.iload 4, 2) := by decide +kernel
theorem dX3_readLamp_73 : decode cX3_readLamp 73 = .ok (.iload 5, 2) := by decide +kernel
theorem dX3_readLamp_75 : decode cX3_readLamp 75 = .ok (.invokevirtual 71, 3) := by decide +kernel
theorem dX3_readLamp_78 : decode cX3_readLamp 78 = .ok (.pop, 1) := by decide +kernel
theorem dX3_readLamp_79 : decode cX3_readLamp 79 = .ok (.return_, 1) := by decide +kernel
theorem dX3_readRule_0 : decode cX3_readRule 0 = .ok (.aload_n 0, 1) := by decide +kernel
theorem dX3_readRule_1 : decode cX3_readRule 1 = .ok (.getfield 27, 3) := by decide +kernel
theorem dX3_readRule_4 : decode cX3_readRule 4 = .ok (.iload_n 2, 1) := by decide +kernel
theorem dX3_readRule_5 : decode cX3_readRule 5 = .ok (.ishr, 1) := by decide +kernel
theorem dX3_readRule_6 : decode cX3_readRule 6 = .ok (.iconst 1, 1) := by decide +kernel
theorem dX3_readRule_7 : decode cX3_readRule 7 = .ok (.iand, 1) := by decide +kernel
theorem dX3_readRule_8 : decode cX3_readRule 8 = .ok (.iconst 1, 1) := by decide +kernel
theorem dX3_readRule_9 : decode cX3_readRule 9 = .ok (.if_icmp .ne 9, 3) := by decide +kernel
theorem dX3_readRule_12 : decode cX3_readRule 12 = .ok (.aload_n 0, 1) := by decide +kernel
theorem dX3_readRule_13 : decode cX3_readRule 13 = .ok (.iconst 4, 1) := by decide +kernel
theorem dX3_readRule_14 : decode cX3_readRule 14 = .ok (.putfield 30, 3) := by decide +kernel
theorem dX3_readRule_17 : decode cX3_readRule 17 = .ok (.return_, 1) := by decide +kernel
theorem dX3_readRule_18 : decode cX3_readRule 18 = .ok (.aload_n 0, 1) := by decide +kernel
theorem dX3_readRule_19 : decode cX3_readRule 19 = .ok (.dup, 1) := by decide +kernel
theorem dX3_readRule_20 : decode cX3_readRule 20 = .ok (.getfield 27, 3) := by decide +kernel
theorem dX3_readRule_23 : decode cX3_readRule 23 = .ok (.iconst 1, 1) := by decide +kernel
theorem dX3_readRule_24 : decode cX3_readRule 24 = .ok (.iload_n 2, 1) := by decide +kernel
theorem dX3_readRule_25 : decode cX3_readRule 25 = .ok (.ishl, 1) := by decide +kernel
theorem dX3_readRule_26 : decode cX3_readRule 26 = .ok (.ior, 1) := by decide +kernel
theorem dX3_readRule_27 : decode cX3_readRule 27 = .ok (.putfield 27, 3) := by decide +kernel
theorem dX3_readRule_30 : decode cX3_readRule 30 = .ok (.aload_n 0, 1) := by decide +kernel
theorem dX3_readRule_31 : decode cX3_readRule 31 = .ok (.getstatic 75, 3) := by decide +kernel
theorem dX3_readRule_34 : decode cX3_readRule 34 = .ok (.iload_n 2, 1) := by decide +kernel
theorem dX3_readRule_35 : decode cX3_readRule 35 = .ok (.iaload, 1) := by decide +kernel
theorem dX3_readRule_36 : decode cX3_readRule 36 = .ok (.getstatic 78, 3) := by decide +kernel
theorem dX3_readRule_39 : decode cX3_readRule 39 = .ok (.iload_n 2, 1) := by decide +kernel
theorem dX3_readRule_40 : decode cX3_readRule 40 = .ok (.iaload, 1) := by decide +kernel
theorem dX3_readRule_41 : decode cX3_readRule 41 = .ok (.invokevirtual 67, 3) := by decide +kernel
theorem dX3_readRule_44 : decode cX3_readRule 44 = .ok (.istore_n 3, 1) := by decide +kernel
theorem dX3_readRule_45 : decode cX3_readRule 45 = .ok (.aload_n 0, 1) := by decide +kernel
theorem dX3_readRule_46 : decode cX3_readRule 46 = .ok (.getfield 30, 3) := by decide +kernel
theorem dX3_readRule_49 : decode cX3_readRule 49 = .ok (.ifCond .ne 10, 3) := by decide +kernel
theorem dX3_readRule_52 : decode cX3_readRule 52 = .ok (.aload_n 1, 1) := by decide +kernel
theorem dX3_readRule_53 : decode cX3_readRule 53 = .ok (.getfield 81, 3) := by decide +kernel
theorem dX3_readRule_56 : decode cX3_readRule 56 = .ok (.iload_n 2, 1) := by decide +kernel
theorem dX3_readRule_57 : decode cX3_readRule 57 = .ok (.iload_n 3, 1) := by decide +kernel
theorem dX3_readRule_58 : decode cX3_readRule 58 = .ok (.iastore, 1) := by decide +kernel
theorem dX3_readRule_59 : decode cX3_readRule 59 = .ok (.return_, 1) := by decide +kernel
theorem dX3_readNumber_0 : decode cX3_readNumber 0 = .ok (.aload_n 0, 1) := by decide +kernel
theorem dX3_readNumber_1 : decode cX3_readNumber 1 = .ok (.getfield 30, 3) := by decide +kernel
theorem dX3_readNumber_4 : decode cX3_readNumber 4 = .ok (.ifCond .ne 7, 3) := by decide +kernel
theorem dX3_readNumber_7 : decode cX3_readNumber 7 = .ok (.aload_n 0, 1) := by decide +kernel
theorem dX3_readNumber_8 : decode cX3_readNumber 8 = .ok (.invokevirtual 33, 3) := by decide +kernel
theorem dX3_readNumber_11 : decode cX3_readNumber 11 = .ok (.aload_n 0, 1) := by decide +kernel
theorem dX3_readNumber_12 : decode cX3_readNumber 12 = .ok (.getfield 30, 3) := by decide +kernel
theorem dX3_readNumber_15 : decode cX3_readNumber 15 = .ok (.ifCond .ne 16, 3) := by decide +kernel
theorem dX3_readNumber_18 : decode cX3_readNumber 18 = .ok (.aload_n 0, 1) := by decide +kernel
theorem dX3_readNumber_19 : decode cX3_readNumber 19 = .ok (.getfield 36, 3) := by decide +kernel
theorem dX3_readNumber_22 : decode cX3_readNumber 22 = .ok (.iconst 1, 1) := by decide +kernel
theorem dX3_readNumber_23 : decode cX3_readNumber 23 = .ok (.if_icmp .eq 8, 3) := by decide +kernel
theorem dX3_readNumber_26 : decode cX3_readNumber 26 = .ok (.aload_n 0, 1) := by decide +kernel
theorem dX3_readNumber_27 : decode cX3_readNumber 27 = .ok (.iconst 2, 1) := by decide +kernel
theorem dX3_readNumber_28 : decode cX3_readNumber 28 = .ok (.putfield 30, 3) := by decide +kernel
theorem dX3_readNumber_31 : decode cX3_readNumber 31 = .ok (.aload_n 0, 1) := by decide +kernel
theorem dX3_readNumber_32 : decode cX3_readNumber 32 = .ok (.getfield 30, 3) := by decide +kernel
theorem dX3_readNumber_35 : decode cX3_readNumber 35 = .ok (.ifCond .eq 5, 3) := by decide +kernel
theorem dX3_readNumber_38 : decode cX3_readNumber 38 = .ok (.iconst 0, 1) := by decide +kernel
theorem dX3_readNumber_39 : decode cX3_readNumber 39 = .ok (.ireturn, 1) := by decide +kernel
theorem dX3_readNumber_40 : decode cX3_readNumber 40 = .ok (.iconst 0, 1) := by decide +kernel
theorem dX3_readNumber_41 : decode cX3_readNumber 41 = .ok (.istore_n 3, 1) := by decide +kernel
theorem dX3_readNumber_42 : decode cX3_readNumber 42 = .ok (.aload_n 0, 1) := by decide +kernel
theorem dX3_readNumber_43 : decode cX3_readNumber 43 = .ok (.getfield 43, 3) := by decide +kernel
theorem dX3_readNumber_46 : decode cX3_readNumber 46 = .ok (.istore 4, 2) := by decide +kernel
theorem dX3_readNumber_48 : decode cX3_readNumber 48 = .ok (.iload 4, 2) := by decide +kernel
theorem dX3_readNumber_50 : decode cX3_readNumber 50 = .ok (.aload_n 0, 1) := by decide +kernel
theorem dX3_readNumber_51 : decode cX3_readNumber 51 = .ok (.getfield 24, 3) := by decide +kernel
theorem dX3_readNumber_54 : decode cX3_readNumber 54 = .ok (.if_icmp .ge 25, 3) := by decide +kernel
theorem dX3_readNumber_57 : decode cX3_readNumber 57 = .ok (.bipush 10, 2) := by decide +kernel
theorem dX3_readNumber_59 : decode cX3_readNumber 59 = .ok (.iload_n 3, 1) := by decide +kernel
theorem dX3_readNumber_60 : decode cX3_readNumber 60 = .ok (.imul, 1) := by decide +kernel
theorem dX3_readNumber_61 : decode cX3_readNumber 61 = .ok (.aload_n 0, 1) := by decide +kernel
theorem dX3_readNumber_62 : decode cX3_readNumber 62 = .ok (.getfield 9, 3) := by decide +kernel
theorem dX3_readNumber_65 : decode cX3_readNumber 65 = .ok (.iload 4, 2) := by decide +kernel
theorem dX3_readNumber_67 : decode cX3_readNumber 67 = .ok (.baload, 1) := by decide +kernel
theorem dX3_readNumber_68 : decode cX3_readNumber 68 = .ok (.iadd, 1) := by decide +kernel
theorem dX3_readNumber_69 : decode cX3_readNumber 69 = .ok (.bipush 48, 2) := by decide +kernel
theorem dX3_readNumber_71 : decode cX3_readNumber 71 = .ok (.isub, 1) := by decide +kernel
theorem dX3_readNumber_72 : decode cX3_readNumber 72 = .ok (.istore_n 3, 1) := by decide +kernel
theorem dX3_readNumber_73 : decode cX3_readNumber 73 = .ok (.iinc 4 1, 3) := by decide +kernel
theorem dX3_readNumber_76 : decode cX3_readNumber 76 = .ok (.goto (-28), 3) := by decide +kernel
theorem dX3_readNumber_79 : decode cX3_readNumber 79 = .ok (.iload_n 3, 1) := by decide +kernel
theorem dX3_readNumber_80 : decode cX3_readNumber 80 = .ok (.iload_n 1, 1) := by decide +kernel
theorem dX3_readNumber_81 : decode cX3_readNumber 81 = .ok (.iload_n 2, 1) := by decide +kernel
theorem dX3_readNumber_82 : decode cX3_readNumber 82 = .ok (.invokestatic 84, 3) := by decide +kernel
theorem dX3_readNumber_85 : decode cX3_readNumber 85 = .ok (.ifCond .eq 8, 3) := by decide +kernel
theorem dX3_readNumber_88 : decode cX3_readNumber 88 = .ok (.aload_n 0, 1) := by decide +kernel
theorem dX3_readNumber_89 : decode cX3_readNumber 89 = .ok (.iconst 3, 1) := by decide +kernel
theorem dX3_readNumber_90 : decode cX3_readNumber 90 = .ok (.putfield 30, 3) := by decide +kernel
theorem dX3_readNumber_93 : decode cX3_readNumber 93 = .ok (.iload_n 3, 1) := by decide +kernel
theorem dX3_readNumber_94 : decode cX3_readNumber 94 = .ok (.ireturn, 1) := by decide +kernel
theorem dX3_advance_0 : decode cX3_advance 0 = .ok (.aload_n 0, 1) := by decide +kernel
theorem dX3_advance_1 : decode cX3_advance 1 = .ok (.bipush 32, 2) := by decide +kernel
theorem dX3_advance_3 : decode cX3_advance 3 = .ok (.bipush 32, 2) := by decide +kernel
theorem dX3_advance_5 : decode cX3_advance 5 = .ok (.invokevirtual 88, 3) := by decide +kernel
theorem dX3_advance_8 : decode cX3_advance 8 = .ok (.aload_n 0, 1) := by decide +kernel
theorem dX3_advance_9 : decode cX3_advance 9 = .ok (.aload_n 0, 1) := by decide +kernel
theorem dX3_advance_10 : decode cX3_advance 10 = .ok (.getfield 24, 3) := by decide +kernel
theorem dX3_advance_13 : decode cX3_advance 13 = .ok (.putfield 43, 3) := by decide +kernel
theorem dX3_advance_16 : decode cX3_advance 16 = .ok (.aload_n 0, 1) := by decide +kernel
theorem dX3_advance_17 : decode cX3_advance 17 = .ok (.getfield 24, 3) := by decide +kernel
theorem dX3_advance_20 : decode cX3_advance 20 = .ok (.aload_n 0, 1) := by decide +kernel
theorem dX3_advance_21 : decode cX3_advance 21 = .ok (.getfield 15, 3) := by decide +kernel
theorem dX3_advance_24 : decode cX3_advance 24 = .ok (.if_icmp .ge 15, 3) := by decide +kernel
theorem dX3_advance_27 : decode cX3_advance 27 = .ok (.aload_n 0, 1) := by decide +kernel
theorem dX3_advance_28 : decode cX3_advance 28 = .ok (.getfield 9, 3) := by decide +kernel
theorem dX3_advance_31 : decode cX3_advance 31 = .ok (.aload_n 0, 1) := by decide +kernel
theorem dX3_advance_32 : decode cX3_advance 32 = .ok (.getfield 24, 3) := by decide +kernel
theorem dX3_advance_35 : decode cX3_advance 35 = .ok (.baload, 1) := by decide +kernel
theorem dX3_advance_36 : decode cX3_advance 36 = .ok (.goto 4, 3) := by decide +kernel
theorem dX3_advance_39 : decode cX3_advance 39 = .ok (.iconst (-1), 1) := by decide +kernel
theorem dX3_advance_40 : decode cX3_advance 40 = .ok (.istore_n 1, 1) := by decide +kernel
theorem dX3_advance_41 : decode cX3_advance 41 = .ok (.iload_n 1, 1) := by decide +kernel
theorem dX3_advance_42 : decode cX3_advance 42 = .ok (.ifCond .ge 11, 3) := by decide +kernel
theorem dX3_advance_45 : decode cX3_advance 45 = .ok (.aload_n 0, 1) := by decide +kernel
theorem dX3_advance_46 : decode cX3_advance 46 = .ok (.iconst 3, 1) := by decide +kernel
theorem dX3_advance_47 : decode cX3_advance 47 = .ok (.putfield 36, 3) := by decide +kernel
theorem dX3_advance_50 : decode cX3_advance 50 = .ok (.goto 106, 3) := by decide +kernel
theorem dX3_advance_53 : decode cX3_advance 53 = .ok (.iload_n 1, 1) := by decide +kernel
theorem dX3_advance_54 : decode cX3_advance 54 = .ok (.bipush 97, 2) := by decide +kernel
theorem dX3_advance_56 : decode cX3_advance 56 = .ok (.if_icmp .lt 25, 3) := by decide +kernel
theorem dX3_advance_59 : decode cX3_advance 59 = .ok (.iload_n 1, 1) := by decide +kernel
theorem dX3_advance_60 : decode cX3_advance 60 = .ok (.bipush 122, 2) := by decide +kernel
theorem dX3_advance_62 : decode cX3_advance 62 = .ok (.if_icmp .gt 19, 3) := by decide +kernel
theorem dX3_advance_65 : decode cX3_advance 65 = .ok (.aload_n 0, 1) := by decide +kernel
theorem dX3_advance_66 : decode cX3_advance 66 = .ok (.iconst 0, 1) := by decide +kernel
theorem dX3_advance_67 : decode cX3_advance 67 = .ok (.putfield 36, 3) := by decide +kernel
theorem dX3_advance_70 : decode cX3_advance 70 = .ok (.aload_n 0, 1) := by decide +kernel
theorem dX3_advance_71 : decode cX3_advance 71 = .ok (.bipush 97, 2) := by decide +kernel
theorem dX3_advance_73 : decode cX3_advance 73 = .ok (.bipush 122, 2) := by decide +kernel
theorem dX3_advance_75 : decode cX3_advance 75 = .ok (.invokevirtual 88, 3) := by decide +kernel
theorem dX3_advance_78 : decode cX3_advance 78 = .ok (.goto 78, 3) := by decide +kernel
theorem dX3_advance_81 : decode cX3_advance 81 = .ok (.iload_n 1, 1) := by decide +kernel
theorem dX3_advance_82 : decode cX3_advance 82 = .ok (.bipush 48, 2) := by decide +kernel
theorem dX3_advance_84 : decode cX3_advance 84 = .ok (.if_icmp .lt 43, 3) := by decide +kernel
theorem dX3_advance_87 : decode cX3_advance 87 = .ok (.iload_n 1, 1) := by decide +kernel
theorem dX3_advance_88 : decode cX3_advance 88 = .ok (.bipush 57, 2) := by decide +kernel
theorem dX3_advance_90 : decode cX3_advance 90 = .ok (.if_icmp .gt 37, 3) := by decide +kernel
theorem dX3_advance_93 : decode cX3_advance 93 = .ok (.aload_n 0, 1) := by decide +kernel
theorem dX3_advance_94 : decode cX3_advance 94 = .ok (.iconst 1, 1) := by decide +kernel
theorem dX3_advance_95 : decode cX3_advance 95 = .ok (.putfield 36, 3) := by decide +kernel
theorem dX3_advance_98 : decode cX3_advance 98 = .ok (.aload_n 0, 1) := by decide +kernel
theorem dX3_advance_99 : decode cX3_advance 99 = .ok (.bipush 48, 2) := by decide +kernel
theorem dX3_advance_101 : decode cX3_advance 101 = .ok (.bipush 57, 2) := by decide +kernel
theorem dX3_advance_103 : decode cX3_advance 103 = .ok (.invokevirtual 88, 3) := by decide +kernel
theorem dX3_advance_106 : decode cX3_advance 106 = .ok (.aload_n 0, 1) := by decide +kernel
theorem dX3_advance_107 : decode cX3_advance 107 = .ok (.getfield 24, 3) := by decide +kernel
theorem dX3_advance_110 : decode cX3_advance 110 = .ok (.aload_n 0, 1) := by decide +kernel
theorem dX3_advance_111 : decode cX3_advance 111 = .ok (.getfield 43, 3) := by decide +kernel
theorem dX3_advance_114 : decode cX3_advance 114 = .ok (.isub, 1) := by decide +kernel
theorem dX3_advance_115 : decode cX3_advance 115 = .ok (.iconst 2, 1) := by decide +kernel
theorem dX3_advance_116 : decode cX3_advance 116 = .ok (.if_icmp .le 40, 3) := by decide +kernel
theorem dX3_advance_119 : decode cX3_advance 119 = .ok (.aload_n 0, 1) := by decide +kernel
theorem dX3_advance_120 : decode cX3_advance 120 = .ok (.iconst 1, 1) := by decide +kernel
theorem dX3_advance_121 : decode cX3_advance 121 = .ok (.putfield 30, 3) := by decide +kernel
theorem dX3_advance_124 : decode cX3_advance 124 = .ok (.goto 32, 3) := by decide +kernel
theorem dX3_advance_127 : decode cX3_advance 127 = .ok (.iload_n 1, 1) := by decide +kernel
theorem dX3_advance_128 : decode cX3_advance 128 = .ok (.bipush 59, 2) := by decide +kernel
theorem dX3_advance_130 : decode cX3_advance 130 = .ok (.if_icmp .ne 21, 3) := by decide +kernel
theorem dX3_advance_133 : decode cX3_advance 133 = .ok (.aload_n 0, 1) := by decide +kernel
theorem dX3_advance_134 : decode cX3_advance 134 = .ok (.iconst 2, 1) := by decide +kernel
theorem dX3_advance_135 : decode cX3_advance 135 = .ok (.putfield 36, 3) := by decide +kernel
theorem dX3_advance_138 : decode cX3_advance 138 = .ok (.aload_n 0, 1) := by decide +kernel
theorem dX3_advance_139 : decode cX3_advance 139 = .ok (.dup, 1) := by decide +kernel
theorem dX3_advance_140 : decode cX3_advance 140 = .ok (.getfield 24, 3) := by decide +kernel
theorem dX3_advance_143 : decode cX3_advance 143 = .ok (.iconst 1, 1) := by decide +kernel
theorem dX3_advance_144 : decode cX3_advance 144 = .ok (.iadd, 1) := by decide +kernel
theorem dX3_advance_145 : decode cX3_advance 145 = .ok (.putfield 24, 3) := by decide +kernel
theorem dX3_advance_148 : decode cX3_advance 148 = .ok (.goto 8, 3) := by decide +kernel
theorem dX3_advance_151 : decode cX3_advance 151 = .ok (.aload_n 0, 1) := by decide +kernel
theorem dX3_advance_152 : decode cX3_advance 152 = .ok (.iconst 1, 1) := by decide +kernel
theorem dX3_advance_153 : decode cX3_advance 153 = .ok (.putfield 30, 3) := by decide +kernel
theorem dX3_advance_156 : decode cX3_advance 156 = .ok (.return_, 1) := by decide +kernel
theorem dX3_takeAll_0 : decode cX3_takeAll 0 = .ok (.aload_n 0, 1) := by decide +kernel
theorem dX3_takeAll_1 : decode cX3_takeAll 1 = .ok (.getfield 24, 3) := by decide +kernel
theorem dX3_takeAll_4 : decode cX3_takeAll 4 = .ok (.aload_n 0, 1) := by decide +kernel
theorem dX3_takeAll_5 : decode cX3_takeAll 5 = .ok (.getfield 15, 3) := by decide +kernel
theorem dX3_takeAll_8 : decode cX3_takeAll 8 = .ok (.if_icmp .ge 42, 3) := by decide +kernel
theorem dX3_takeAll_11 : decode cX3_takeAll 11 = .ok (.aload_n 0, 1) := by decide +kernel
theorem dX3_takeAll_12 : decode cX3_takeAll 12 = .ok (.getfield 9, 3) := by decide +kernel
theorem dX3_takeAll_15 : decode cX3_takeAll 15 = .ok (.aload_n 0, 1) := by decide +kernel
theorem dX3_takeAll_16 : decode cX3_takeAll 16 = .ok (.getfield 24, 3) := by decide +kernel
theorem dX3_takeAll_19 : decode cX3_takeAll 19 = .ok (.baload, 1) := by decide +kernel
theorem dX3_takeAll_20 : decode cX3_takeAll 20 = .ok (.iload_n 1, 1) := by decide +kernel
theorem dX3_takeAll_21 : decode cX3_takeAll 21 = .ok (.if_icmp .lt 29, 3) := by decide +kernel
theorem dX3_takeAll_24 : decode cX3_takeAll 24 = .ok (.aload_n 0, 1) := by decide +kernel
theorem dX3_takeAll_25 : decode cX3_takeAll 25 = .ok (.getfield 9, 3) := by decide +kernel
theorem dX3_takeAll_28 : decode cX3_takeAll 28 = .ok (.aload_n 0, 1) := by decide +kernel
theorem dX3_takeAll_29 : decode cX3_takeAll 29 = .ok (.getfield 24, 3) := by decide +kernel
theorem dX3_takeAll_32 : decode cX3_takeAll 32 = .ok (.baload, 1) := by decide +kernel
theorem dX3_takeAll_33 : decode cX3_takeAll 33 = .ok (.iload_n 2, 1) := by decide +kernel
theorem dX3_takeAll_34 : decode cX3_takeAll 34 = .ok (.if_icmp .gt 16, 3) := by decide +kernel
theorem dX3_takeAll_37 : decode cX3_takeAll 37 = .ok (.aload_n 0, 1) := by decide +kernel
theorem dX3_takeAll_38 : decode cX3_takeAll 38 = .ok (.dup, 1) := by decide +kernel
theorem dX3_takeAll_39 : decode cX3_takeAll 39 = .ok (.getfield 24, 3) := by decide +kernel
theorem dX3_takeAll_42 : decode cX3_takeAll 42 = .ok (.iconst 1, 1) := by decide +kernel
theorem dX3_takeAll_43 : decode cX3_takeAll 43 = .ok (.iadd, 1) := by decide +kernel
theorem dX3_takeAll_44 : decode cX3_takeAll 44 = .ok (.putfield 24, 3) := by decide +kernel
theorem dX3_takeAll_47 : decode cX3_takeAll 47 = .ok (.goto (-47), 3) := by decide +kernel
theorem dX3_takeAll_50 : decode cX3_takeAll 50 = .ok (.return_, 1) := by decide +kernel
theorem dX3_lineBegun_0 : decode cX3_lineBegun 0 = .ok (.aload_n 0, 1) := by decide +kernel
theorem dX3_lineBegun_1 : decode cX3_lineBegun 1 = .ok (.getfield 36, 3) := by decide +kernel
theorem dX3_lineBegun_4 : decode cX3_lineBegun 4 = .ok (.ifCond .eq 5, 3) := by decide +kernel
theorem dX3_lineBegun_7 : decode cX3_lineBegun 7 = .ok (.iconst (-1), 1) := by decide +kernel
theorem dX3_lineBegun_8 : decode cX3_lineBegun 8 = .ok (.ireturn, 1) := by decide +kernel
theorem dX3_lineBegun_9 : decode cX3_lineBegun 9 = .ok (.iconst 0, 1) := by decide +kernel
theorem dX3_lineBegun_10 : decode cX3_lineBegun 10 = .ok (.istore_n 1, 1) := by decide +kernel
theorem dX3_lineBegun_11 : decode cX3_lineBegun 11 = .ok (.iload_n 1, 1) := by decide +kernel
theorem dX3_lineBegun_12 : decode cX3_lineBegun 12 = .ok (.bipush 8, 2) := by decide +kernel
theorem dX3_lineBegun_14 : decode cX3_lineBegun 14 = .ok (.if_icmp .ge 22, 3) := by decide +kernel
theorem dX3_lineBegun_17 : decode cX3_lineBegun 17 = .ok (.aload_n 0, 1) := by decide +kernel
theorem dX3_lineBegun_18 : decode cX3_lineBegun 18 = .ok (.iload_n 1, 1) := by decide +kernel
theorem dX3_lineBegun_19 : decode cX3_lineBegun 19 = .ok (.invokestatic 92, 3) := by decide +kernel
theorem dX3_lineBegun_22 : decode cX3_lineBegun 22 = .ok (.invokevirtual 96, 3) := by decide +kernel
theorem dX3_lineBegun_25 : decode cX3_lineBegun 25 = .ok (.ifCond .eq 5, 3) := by decide +kernel
theorem dX3_lineBegun_28 : decode cX3_lineBegun 28 = .ok (.iload_n 1, 1) := by decide +kernel
theorem dX3_lineBegun_29 : decode cX3_lineBegun 29 = .ok (.ireturn, 1) := by decide +kernel
theorem dX3_lineBegun_30 : decode cX3_lineBegun 30 = .ok (.iinc 1 1, 3) := by decide +kernel
theorem dX3_lineBegun_33 : decode cX3_lineBegun 33 = .ok (.goto (-22), 3) := by decide +kernel
theorem dX3_lineBegun_36 : decode cX3_lineBegun 36 = .ok (.iconst (-1), 1) := by decide +kernel
theorem dX3_lineBegun_37 : decode cX3_lineBegun 37 = .ok (.ireturn, 1) := by decide +kernel
theorem dX3_isCalled_0 : decode cX3_isCalled 0 = .ok (.aload_n 1, 1) := by decide +kernel
theorem dX3_isCalled_1 : decode cX3_isCalled 1 = .ok (.invokevirtual 100, 3) := by decide +kernel
theorem dX3_isCalled_4 : decode cX3_isCalled 4 = .ok (.aload_n 0, 1) := by decide +kernel
theorem dX3_isCalled_5 : decode cX3_isCalled 5 = .ok (.getfield 24, 3) := by decide +kernel
theorem dX3_isCalled_8 : decode cX3_isCalled 8 = .ok (.aload_n 0, 1) := by decide +kernel
theorem dX3_isCalled_9 : decode cX3_isCalled 9 = .ok (.getfield 43, 3) := by decide +kernel
theorem dX3_isCalled_12 : decode cX3_isCalled 12 = .ok (.isub, 1) := by decide +kernel
theorem dX3_isCalled_13 : decode cX3_isCalled 13 = .ok (.if_icmp .eq 5, 3) := by decide +kernel
theorem dX3_isCalled_16 : decode cX3_isCalled 16 = .ok (.iconst 0, 1) := by decide +kernel
theorem dX3_isCalled_17 : decode cX3_isCalled 17 = .ok (.ireturn, 1) := by decide +kernel
theorem dX3_isCalled_18 : decode cX3_isCalled 18 = .ok (.iconst 0, 1) := by decide +kernel
theorem dX3_isCalled_19 : decode cX3_isCalled 19 = .ok (.istore_n 2, 1) := by decide +kernel
theorem dX3_isCalled_20 : decode cX3_isCalled 20 = .ok (.iload_n 2, 1) := by decide +kernel
theorem dX3_isCalled_21 : decode cX3_isCalled 21 = .ok (.aload_n 1, 1) := by decide +kernel
theorem dX3_isCalled_22 : decode cX3_isCalled 22 = .ok (.invokevirtual 100, 3) := by decide +kernel
theorem dX3_isCalled_25 : decode cX3_isCalled 25 = .ok (.if_icmp .ge 30, 3) := by decide +kernel
theorem dX3_isCalled_28 : decode cX3_isCalled 28 = .ok (.aload_n 0, 1) := by decide +kernel
theorem dX3_isCalled_29 : decode cX3_isCalled 29 = .ok (.getfield 9, 3) := by decide +kernel
theorem dX3_isCalled_32 : decode cX3_isCalled 32 = .ok (.aload_n 0, 1) := by decide +kernel
theorem dX3_isCalled_33 : decode cX3_isCalled 33 = .ok (.getfield 43, 3) := by decide +kernel
theorem dX3_isCalled_36 : decode cX3_isCalled 36 = .ok (.iload_n 2, 1) := by decide +kernel
theorem dX3_isCalled_37 : decode cX3_isCalled 37 = .ok (.iadd, 1) := by decide +kernel
theorem dX3_isCalled_38 : decode cX3_isCalled 38 = .ok (.baload, 1) := by decide +kernel
theorem dX3_isCalled_39 : decode cX3_isCalled 39 = .ok (.aload_n 1, 1) := by decide +kernel
theorem dX3_isCalled_40 : decode cX3_isCalled 40 = .ok (.iload_n 2, 1) := by decide +kernel
theorem dX3_isCalled_41 : decode cX3_isCalled 41 = .ok (.invokevirtual 104, 3) := by decide +kernel
theorem dX3_isCalled_44 : decode cX3_isCalled 44 = .ok (.if_icmp .eq 5, 3) := by decide +kernel
theorem dX3_isCalled_47 : decode cX3_isCalled 47 = .ok (.iconst 0, 1) := by decide +kernel
theorem dX3_isCalled_48 : decode cX3_isCalled 48 = .ok (.ireturn, 1) := by decide +kernel
theorem dX3_isCalled_49 : decode cX3_isCalled 49 = .ok (.iinc 2 1, 3) := by decide +kernel
theorem dX3_isCalled_52 : decode cX3_isCalled 52 = .ok (.goto (-32), 3) := by decide +kernel
theorem dX3_isCalled_55 : decode cX3_isCalled 55 = .ok (.iconst 1, 1) := by decide +kernel
theorem dX3_isCalled_56 : decode cX3_isCalled 56 = .ok (.ireturn, 1) := by decide +kernel
theorem dX3_nameOf_0 : decode cX3_nameOf 0 = .ok (.iload_n 0, 1) := by decide +kernel
theorem dX3_nameOf_1 : decode cX3_nameOf 1 = .ok (.tableswitch 64 0 6 #[43, 46, 49, 52, 55, 58, 61], 43) := by decide +kernel
theorem dX3_nameOf_44 : decode cX3_nameOf 44 = .ok (.ldc 108, 2) := by decide +kernel
theorem dX3_nameOf_46 : decode cX3_nameOf 46 = .ok (.areturn, 1) := by decide +kernel
theorem dX3_nameOf_47 : decode cX3_nameOf 47 = .ok (.ldc 110, 2) := by decide +kernel
theorem dX3_nameOf_49 : decode cX3_nameOf 49 = .ok (.areturn, 1) := by decide +kernel
theorem dX3_nameOf_50 : decode cX3_nameOf 50 = .ok (.ldc 112, 2) := by decide +kernel
theorem dX3_nameOf_52 : decode cX3_nameOf 52 = .ok (.areturn, 1) := by decide +kernel
theorem dX3_nameOf_53 : decode cX3_nameOf 53 = .ok (.ldc 114, 2) := by decide +kernel
theorem dX3_nameOf_55 : decode cX3_nameOf 55 = .ok (.areturn, 1) := by decide +kernel
theorem dX3_nameOf_56 : decode cX3_nameOf 56 = .ok (.ldc 116, 2) := by decide +kernel
theorem dX3_nameOf_58 : decode cX3_nameOf 58 = .ok (.areturn, 1) := by decide +kernel
theorem dX3_nameOf_59 : decode cX3_nameOf 59 = .ok (.ldc 118, 2) := by decide +kernel
theorem dX3_nameOf_61 : decode cX3_nameOf 61 = .ok (.areturn, 1) := by decide +kernel
theorem dX3_nameOf_62 : decode cX3_nameOf 62 = .ok (.ldc 120, 2) := by decide +kernel
theorem dX3_nameOf_64 : decode cX3_nameOf 64 = .ok (.areturn, 1) := by decide +kernel
theorem dX3_nameOf_65 : decode cX3_nameOf 65 = .ok (.ldc 122, 2) := by decide +kernel
theorem dX3_nameOf_67 : decode cX3_nameOf 67 = .ok (.areturn, 1) := by decide +kernel
theorem dJ6_bitCount_0f7a4_0 : decode cJ6_bitCount_0f7a4 0 = .ok (.iload_n 0, 1) := by decide +kernel
theorem dJ6_bitCount_0f7a4_1 : decode cJ6_bitCount_0f7a4 1 = .ok (.iload_n 0, 1) := by decide +kernel
theorem dJ6_bitCount_0f7a4_2 : decode cJ6_bitCount_0f7a4 2 = .ok (.iconst 1, 1) := by decide +kernel
theorem dJ6_bitCount_0f7a4_3 : decode cJ6_bitCount_0f7a4 3 = .ok (.iushr, 1) := by decide +kernel
theorem dJ6_bitCount_0f7a4_4 : decode cJ6_bitCount_0f7a4 4 = .ok (.ldc_w 265, 3) := by decide +kernel
theorem dJ6_bitCount_0f7a4_7 : decode cJ6_bitCount_0f7a4 7 = .ok (.iand, 1) := by decide +kernel
theorem dJ6_bitCount_0f7a4_8 : decode cJ6_bitCount_0f7a4 8 = .ok (.isub, 1) := by decide +kernel
theorem dJ6_bitCount_0f7a4_9 : decode cJ6_bitCount_0f7a4 9 = .ok (.istore_n 0, 1) := by decide +kernel
theorem dJ6_bitCount_0f7a4_10 : decode cJ6_bitCount_0f7a4 10 = .ok (.iload_n 0, 1) := by decide +kernel
theorem dJ6_bitCount_0f7a4_11 : decode cJ6_bitCount_0f7a4 11 = .ok (.ldc_w 266, 3) := by decide +kernel
theorem dJ6_bitCount_0f7a4_14 : decode cJ6_bitCount_0f7a4 14 = .ok (.iand, 1) := by decide +kernel
theorem dJ6_bitCount_0f7a4_15 : decode cJ6_bitCount_0f7a4 15 = .ok (.iload_n 0, 1) := by decide +kernel
theorem dJ6_bitCount_0f7a4_16 : decode cJ6_bitCount_0f7a4 16 = .ok (.iconst 2, 1) := by decide +kernel
theorem dJ6_bitCount_0f7a4_17 : decode cJ6_bitCount_0f7a4 17 = .ok (.iushr, 1) := by decide +kernel
theorem dJ6_bitCount_0f7a4_18 : decode cJ6_bitCount_0f7a4 18 = .ok (.ldc_w 266, 3) := by decide +kernel
theorem dJ6_bitCount_0f7a4_21 : decode cJ6_bitCount_0f7a4 21 = .ok (.iand, 1) := by decide +kernel
theorem dJ6_bitCount_0f7a4_22 : decode cJ6_bitCount_0f7a4 22 = .ok (.iadd, 1) := by decide +kernel
theorem dJ6_bitCount_0f7a4_23 : decode cJ6_bitCount_0f7a4 23 = .ok (.istore_n 0, 1) := by decide +kernel
theorem dJ6_bitCount_0f7a4_24 : decode cJ6_bitCount_0f7a4 24 = .ok (.iload_n 0, 1) := by decide +kernel
theorem dJ6_bitCount_0f7a4_25 : decode cJ6_bitCount_0f7a4 25 = .ok (.iload_n 0, 1) := by decide +kernel
theorem dJ6_bitCount_0f7a4_26 : decode cJ6_bitCount_0f7a4 26 = .ok (.iconst 4, 1) := by decide +kernel
theorem dJ6_bitCount_0f7a4_27 : decode cJ6_bitCount_0f7a4 27 = .ok (.iushr, 1) := by decide +kernel
theorem dJ6_bitCount_0f7a4_28 : decode cJ6_bitCount_0f7a4 28 = .ok (.iadd, 1) := by decide +kernel
theorem dJ6_bitCount_0f7a4_29 : decode cJ6_bitCount_0f7a4 29 = .ok (.ldc_w 267, 3) := by decide +kernel
theorem dJ6_bitCount_0f7a4_32 : decode cJ6_bitCount_0f7a4 32 = .ok (.iand, 1) := by decide +kernel
theorem dJ6_bitCount_0f7a4_33 : decode cJ6_bitCount_0f7a4 33 = .ok (.istore_n 0, 1) := by decide +kernel
theorem dJ6_bitCount_0f7a4_34 : decode cJ6_bitCount_0f7a4 34 = .ok (.iload_n 0, 1) := by decide +kernel
theorem dJ6_bitCount_0f7a4_35 : decode cJ6_bitCount_0f7a4 35 = .ok (.iload_n 0, 1) := by decide +kernel
theorem dJ6_bitCount_0f7a4_36 : decode cJ6_bitCount_0f7a4 36 = .ok (.bipush 8, 2) := by decide +kernel
theorem dJ6_bitCount_0f7a4_38 : decode cJ6_bitCount_0f7a4 38 = .ok (.iushr, 1) := by decide +kernel
theorem dJ6_bitCount_0f7a4_39 : decode cJ6_bitCount_0f7a4 39 = .ok (.iadd, 1) := by decide +kernel
theorem dJ6_bitCount_0f7a4_40 : decode cJ6_bitCount_0f7a4 40 = .ok (.istore_n 0, 1) := by decide +kernel
theorem dJ6_bitCount_0f7a4_41 : decode cJ6_bitCount_0f7a4 41 = .ok (.iload_n 0, 1) := by decide +kernel
theorem dJ6_bitCount_0f7a4_42 : decode cJ6_bitCount_0f7a4 42 = .ok (.iload_n 0, 1) := by decide +kernel
theorem dJ6_bitCount_0f7a4_43 : decode cJ6_bitCount_0f7a4 43 = .ok (.bipush 16, 2) := by decide +kernel
theorem dJ6_bitCount_0f7a4_45 : decode cJ6_bitCount_0f7a4 45 = .ok (.iushr, 1) := by decide +kernel
theorem dJ6_bitCount_0f7a4_46 : decode cJ6_bitCount_0f7a4 46 = .ok (.iadd, 1) := by decide +kernel
theorem dJ6_bitCount_0f7a4_47 : decode cJ6_bitCount_0f7a4 47 = .ok (.istore_n 0, 1) := by decide +kernel
theorem dJ6_bitCount_0f7a4_48 : decode cJ6_bitCount_0f7a4 48 = .ok (.iload_n 0, 1) := by decide +kernel
theorem dJ6_bitCount_0f7a4_49 : decode cJ6_bitCount_0f7a4 49 = .ok (.bipush 63, 2) := by decide +kernel
theorem dJ6_bitCount_0f7a4_51 : decode cJ6_bitCount_0f7a4 51 = .ok (.iand, 1) := by decide +kernel
theorem dJ6_bitCount_0f7a4_52 : decode cJ6_bitCount_0f7a4 52 = .ok (.ireturn, 1) := by decide +kernel
theorem dJ9_max_7cf53_0 : decode cJ9_max_7cf53 0 = .ok (.iload_n 0, 1) := by decide +kernel
theorem dJ9_max_7cf53_1 : decode cJ9_max_7cf53 1 = .ok (.iload_n 1, 1) := by decide +kernel
theorem dJ9_max_7cf53_2 : decode cJ9_max_7cf53 2 = .ok (.if_icmp .lt 7, 3) := by decide +kernel
theorem dJ9_max_7cf53_5 : decode cJ9_max_7cf53 5 = .ok (.iload_n 0, 1) := by decide +kernel
theorem dJ9_max_7cf53_6 : decode cJ9_max_7cf53 6 = .ok (.goto 4, 3) := by decide +kernel
theorem dJ9_max_7cf53_9 : decode cJ9_max_7cf53 9 = .ok (.iload_n 1, 1) := by decide +kernel
theorem dJ9_max_7cf53_10 : decode cJ9_max_7cf53 10 = .ok (.ireturn, 1) := by decide +kernel
theorem dJ9_min_7cf53_0 : decode cJ9_min_7cf53 0 = .ok (.iload_n 0, 1) := by decide +kernel
theorem dJ9_min_7cf53_1 : decode cJ9_min_7cf53 1 = .ok (.iload_n 1, 1) := by decide +kernel
theorem dJ9_min_7cf53_2 : decode cJ9_min_7cf53 2 = .ok (.if_icmp .gt 7, 3) := by decide +kernel
theorem dJ9_min_7cf53_5 : decode cJ9_min_7cf53 5 = .ok (.iload_n 0, 1) := by decide +kernel
theorem dJ9_min_7cf53_6 : decode cJ9_min_7cf53 6 = .ok (.goto 4, 3) := by decide +kernel
theorem dJ9_min_7cf53_9 : decode cJ9_min_7cf53 9 = .ok (.iload_n 1, 1) := by decide +kernel
theorem dJ9_min_7cf53_10 : decode cJ9_min_7cf53 10 = .ok (.ireturn, 1) := by decide +kernel
theorem dJ0_length_8abf5_0 : decode cJ0_length_8abf5 0 = .ok (.aload_n 0, 1) := by decide +kernel
theorem dJ0_length_8abf5_1 : decode cJ0_length_8abf5 1 = .ok (.getfield 9, 3) := by decide +kernel
theorem dJ0_length_8abf5_4 : decode cJ0_length_8abf5 4 = .ok (.arraylength, 1) := by decide +kernel
theorem dJ0_length_8abf5_5 : decode cJ0_length_8abf5 5 = .ok (.aload_n 0, 1) := by decide +kernel
theorem dJ0_length_8abf5_6 : decode cJ0_length_8abf5 6 = .ok (.invokevirtual 335, 3) := by decide +kernel
theorem dJ0_length_8abf5_9 : decode cJ0_length_8abf5 9 = .ok (.ishr, 1) := by decide +kernel
theorem dJ0_length_8abf5_10 : decode cJ0_length_8abf5 10 = .ok (.ireturn, 1) := by decide +kernel
theorem dJ0_charAt_5068e_0 : decode cJ0_charAt_5068e 0 = .ok (.aload_n 0, 1) := by decide +kernel
theorem dJ0_charAt_5068e_1 : decode cJ0_charAt_5068e 1 = .ok (.invokevirtual 492, 3) := by decide +kernel
theorem dJ0_charAt_5068e_4 : decode cJ0_charAt_5068e 4 = .ok (.ifCond .eq 12, 3) := by decide +kernel
theorem dJ0_charAt_5068e_7 : decode cJ0_charAt_5068e 7 = .ok (.aload_n 0, 1) := by decide +kernel
theorem dJ0_charAt_5068e_8 : decode cJ0_charAt_5068e 8 = .ok (.getfield 9, 3) := by decide +kernel
theorem dJ0_charAt_5068e_11 : decode cJ0_charAt_5068e 11 = .ok (.iload_n 1, 1) := by decide +kernel
theorem dJ0_charAt_5068e_12 : decode cJ0_charAt_5068e 12 = .ok (.invokestatic 495, 3) := by decide +kernel
theorem dJ0_charAt_5068e_15 : decode cJ0_charAt_5068e 15 = .ok (.ireturn, 1) := by decide +kernel
theorem dJ0_charAt_5068e_16 : decode cJ0_charAt_5068e 16 = .ok (.aload_n 0, 1) := by decide +kernel
theorem dJ0_charAt_5068e_17 : decode cJ0_charAt_5068e 17 = .ok (.getfield 9, 3) := by decide +kernel
theorem dJ0_charAt_5068e_20 : decode cJ0_charAt_5068e 20 = .ok (.iload_n 1, 1) := by decide +kernel
theorem dJ0_charAt_5068e_21 : decode cJ0_charAt_5068e 21 = .ok (.invokestatic 498, 3) := by decide +kernel
theorem dJ0_charAt_5068e_24 : decode cJ0_charAt_5068e 24 = .ok (.ireturn, 1) := by decide +kernel
theorem dJ0_coder_7d493_0 : decode cJ0_coder_7d493 0 = .ok (.getstatic 38, 3) := by decide +kernel
theorem dJ0_coder_7d493_3 : decode cJ0_coder_7d493 3 = .ok (.ifCond .eq 10, 3) := by decide +kernel
theorem dJ0_coder_7d493_6 : decode cJ0_coder_7d493 6 = .ok (.aload_n 0, 1) := by decide +kernel
theorem dJ0_coder_7d493_7 : decode cJ0_coder_7d493 7 = .ok (.getfield 15, 3) := by decide +kernel
theorem dJ0_coder_7d493_10 : decode cJ0_coder_7d493 10 = .ok (.goto 4, 3) := by decide +kernel
theorem dJ0_coder_7d493_13 : decode cJ0_coder_7d493 13 = .ok (.iconst 1, 1) := by decide +kernel
theorem dJ0_coder_7d493_14 : decode cJ0_coder_7d493 14 = .ok (.ireturn, 1) := by decide +kernel
theorem dJ0_isLatin1_aae02_0 : decode cJ0_isLatin1_aae02 0 = .ok (.getstatic 38, 3) := by decide +kernel
theorem dJ0_isLatin1_aae02_3 : decode cJ0_isLatin1_aae02 3 = .ok (.ifCond .eq 14, 3) := by decide +kernel
theorem dJ0_isLatin1_aae02_6 : decode cJ0_isLatin1_aae02 6 = .ok (.aload_n 0, 1) := by decide +kernel
theorem dJ0_isLatin1_aae02_7 : decode cJ0_isLatin1_aae02 7 = .ok (.getfield 15, 3) := by decide +kernel
theorem dJ0_isLatin1_aae02_10 : decode cJ0_isLatin1_aae02 10 = .ok (.ifCond .ne 7, 3) := by decide +kernel
theorem dJ0_isLatin1_aae02_13 : decode cJ0_isLatin1_aae02 13 = .ok (.iconst 1, 1) := by decide +kernel
theorem dJ0_isLatin1_aae02_14 : decode cJ0_isLatin1_aae02 14 = .ok (.goto 4, 3) := by decide +kernel
theorem dJ0_isLatin1_aae02_17 : decode cJ0_isLatin1_aae02 17 = .ok (.iconst 0, 1) := by decide +kernel
theorem dJ0_isLatin1_aae02_18 : decode cJ0_isLatin1_aae02 18 = .ok (.ireturn, 1) := by decide +kernel
theorem dJ0_checkIndex_df160_0 : decode cJ0_checkIndex_df160 0 = .ok (.iload_n 0, 1) := by decide +kernel
theorem dJ0_checkIndex_df160_1 : decode cJ0_checkIndex_df160 1 = .ok (.iload_n 1, 1) := by decide +kernel
theorem dJ0_checkIndex_df160_2 : decode cJ0_checkIndex_df160 2 = .ok (.getstatic 1053, 3) := by decide +kernel
theorem dJ0_checkIndex_df160_5 : decode cJ0_checkIndex_df160 5 = .ok (.invokestatic 1059, 3) := by decide +kernel
theorem dJ0_checkIndex_df160_8 : decode cJ0_checkIndex_df160 8 = .ok (.pop, 1) := by decide +kernel
theorem dJ0_checkIndex_df160_9 : decode cJ0_checkIndex_df160 9 = .ok (.return_, 1) := by decide +kernel
theorem dJ1_charAt_3b067_0 : decode cJ1_charAt_3b067 0 = .ok (.iload_n 1, 1) := by decide +kernel
theorem dJ1_charAt_3b067_1 : decode cJ1_charAt_3b067 1 = .ok (.aload_n 0, 1) := by decide +kernel
theorem dJ1_charAt_3b067_2 : decode cJ1_charAt_3b067 2 = .ok (.arraylength, 1) := by decide +kernel
theorem dJ1_charAt_3b067_3 : decode cJ1_charAt_3b067 3 = .ok (.invokestatic 9, 3) := by decide +kernel
theorem dJ1_charAt_3b067_6 : decode cJ1_charAt_3b067 6 = .ok (.aload_n 0, 1) := by decide +kernel
theorem dJ1_charAt_3b067_7 : decode cJ1_charAt_3b067 7 = .ok (.iload_n 1, 1) := by decide +kernel
theorem dJ1_charAt_3b067_8 : decode cJ1_charAt_3b067 8 = .ok (.baload, 1) := by decide +kernel
theorem dJ1_charAt_3b067_9 : decode cJ1_charAt_3b067 9 = .ok (.sipush 255, 3) := by decide +kernel
theorem dJ1_charAt_3b067_12 : decode cJ1_charAt_3b067 12 = .ok (.iand, 1) := by decide +kernel
theorem dJ1_charAt_3b067_13 : decode cJ1_charAt_3b067 13 = .ok (.i2c, 1) := by decide +kernel
theorem dJ1_charAt_3b067_14 : decode cJ1_charAt_3b067 14 = .ok (.ireturn, 1) := by decide +kernel
theorem dJ2_getChar_3b067_0 : decode cJ2_getChar_3b067 0 = .ok (.getstatic 44, 3) := by decide +kernel
theorem dJ2_getChar_3b067_3 : decode cJ2_getChar_3b067 3 = .ok (.ifCond .ne 25, 3) := by decide +kernel
theorem dJ2_getChar_3b067_6 : decode cJ2_getChar_3b067 6 = .ok (.iload_n 1, 1) := by decide +kernel
theorem dJ2_getChar_3b067_7 : decode cJ2_getChar_3b067 7 = .ok (.ifCond .lt 11, 3) := by decide +kernel
theorem dJ2_getChar_3b067_10 : decode cJ2_getChar_3b067 10 = .ok (.iload_n 1, 1) := by decide +kernel
theorem dJ2_getChar_3b067_11 : decode cJ2_getChar_3b067 11 = .ok (.aload_n 0, 1) := by decide +kernel
theorem dJ2_getChar_3b067_12 : decode cJ2_getChar_3b067 12 = .ok (.invokestatic 48, 3) := by decide +kernel
theorem dJ2_getChar_3b067_15 : decode cJ2_getChar_3b067 15 = .ok (.if_icmp .lt 13, 3) := by decide +kernel
theorem dJ2_getChar_3b067_18 : decode cJ2_getChar_3b067 18 = .ok (.new 52, 3) := by decide +kernel
theorem dJ2_getChar_3b067_21 : decode cJ2_getChar_3b067 21 = .ok (.dup, 1) := by decide +kernel
theorem dJ2_getChar_3b067_22 : decode cJ2_getChar_3b067 22 = .ok (.ldc 54, 2) := by decide +kernel
theorem dJ2_getChar_3b067_24 : decode cJ2_getChar_3b067 24 = .ok (.invokespecial 56, 3) := by decide +kernel
theorem dJ2_getChar_3b067_27 : decode cJ2_getChar_3b067 27 = .ok (.athrow, 1) := by decide +kernel
theorem dJ2_getChar_3b067_28 : decode cJ2_getChar_3b067 28 = .ok (.iload_n 1, 1) := by decide +kernel
theorem dJ2_getChar_3b067_29 : decode cJ2_getChar_3b067 29 = .ok (.iconst 1, 1) := by decide +kernel
theorem dJ2_getChar_3b067_30 : decode cJ2_getChar_3b067 30 = .ok (.ishl, 1) := by decide +kernel
theorem dJ2_getChar_3b067_31 : decode cJ2_getChar_3b067 31 = .ok (.istore_n 1, 1) := by decide +kernel
theorem dJ2_getChar_3b067_32 : decode cJ2_getChar_3b067 32 = .ok (.aload_n 0, 1) := by decide +kernel
theorem dJ2_getChar_3b067_33 : decode cJ2_getChar_3b067 33 = .ok (.iload_n 1, 1) := by decide +kernel
theorem dJ2_getChar_3b067_34 : decode cJ2_getChar_3b067 34 = .ok (.iinc 1 1, 3) := by decide +kernel
theorem dJ2_getChar_3b067_37 : decode cJ2_getChar_3b067 37 = .ok (.baload, 1) := by decide +kernel
theorem dJ2_getChar_3b067_38 : decode cJ2_getChar_3b067 38 = .ok (.sipush 255, 3) := by decide +kernel
theorem dJ2_getChar_3b067_41 : decode cJ2_getChar_3b067 41 = .ok (.iand, 1) := by decide +kernel
theorem dJ2_getChar_3b067_42 : decode cJ2_getChar_3b067 42 = .ok (.getstatic 59, 3) := by decide +kernel
theorem dJ2_getChar_3b067_45 : decode cJ2_getChar_3b067 45 = .ok (.ishl, 1) := by decide +kernel
theorem dJ2_getChar_3b067_46 : decode cJ2_getChar_3b067 46 = .ok (.aload_n 0, 1) := by decide +kernel
theorem dJ2_getChar_3b067_47 : decode cJ2_getChar_3b067 47 = .ok (.iload_n 1, 1) := by decide +kernel
theorem dJ2_getChar_3b067_48 : decode cJ2_getChar_3b067 48 = .ok (.baload, 1) := by decide +kernel
theorem dJ2_getChar_3b067_49 : decode cJ2_getChar_3b067 49 = .ok (.sipush 255, 3) := by decide +kernel
theorem dJ2_getChar_3b067_52 : decode cJ2_getChar_3b067 52 = .ok (.iand, 1) := by decide +kernel
theorem dJ2_getChar_3b067_53 : decode cJ2_getChar_3b067 53 = .ok (.getstatic 63, 3) := by decide +kernel
theorem dJ2_getChar_3b067_56 : decode cJ2_getChar_3b067 56 = .ok (.ishl, 1) := by decide +kernel
theorem dJ2_getChar_3b067_57 : decode cJ2_getChar_3b067 57 = .ok (.ior, 1) := by decide +kernel
theorem dJ2_getChar_3b067_58 : decode cJ2_getChar_3b067 58 = .ok (.i2c, 1) := by decide +kernel
theorem dJ2_getChar_3b067_59 : decode cJ2_getChar_3b067 59 = .ok (.ireturn, 1) := by decide +kernel
theorem dJ2_length_9d52b_0 : decode cJ2_length_9d52b 0 = .ok (.aload_n 0, 1) := by decide +kernel
theorem dJ2_length_9d52b_1 : decode cJ2_length_9d52b 1 = .ok (.arraylength, 1) := by decide +kernel
theorem dJ2_length_9d52b_2 : decode cJ2_length_9d52b 2 = .ok (.iconst 1, 1) := by decide +kernel
theorem dJ2_length_9d52b_3 : decode cJ2_length_9d52b 3 = .ok (.ishr, 1) := by decide +kernel
theorem dJ2_length_9d52b_4 : decode cJ2_length_9d52b 4 = .ok (.ireturn, 1) := by decide +kernel
theorem dJ2_charAt_3b067_0 : decode cJ2_charAt_3b067 0 = .ok (.iload_n 1, 1) := by decide +kernel
theorem dJ2_charAt_3b067_1 : decode cJ2_charAt_3b067 1 = .ok (.aload_n 0, 1) := by decide +kernel
theorem dJ2_charAt_3b067_2 : decode cJ2_charAt_3b067 2 = .ok (.invokestatic 67, 3) := by decide +kernel
theorem dJ2_charAt_3b067_5 : decode cJ2_charAt_3b067 5 = .ok (.aload_n 0, 1) := by decide +kernel
theorem dJ2_charAt_3b067_6 : decode cJ2_charAt_3b067 6 = .ok (.iload_n 1, 1) := by decide +kernel
theorem dJ2_charAt_3b067_7 : decode cJ2_charAt_3b067 7 = .ok (.invokestatic 71, 3) := by decide +kernel
theorem dJ2_charAt_3b067_10 : decode cJ2_charAt_3b067 10 = .ok (.ireturn, 1) := by decide +kernel
theorem dJ2_checkIndex_2214a_0 : decode cJ2_checkIndex_2214a 0 = .ok (.iload_n 0, 1) := by decide +kernel
theorem dJ2_checkIndex_2214a_1 : decode cJ2_checkIndex_2214a 1 = .ok (.aload_n 1, 1) := by decide +kernel
theorem dJ2_checkIndex_2214a_2 : decode cJ2_checkIndex_2214a 2 = .ok (.invokestatic 48, 3) := by decide +kernel
theorem dJ2_checkIndex_2214a_5 : decode cJ2_checkIndex_2214a 5 = .ok (.invokestatic 414, 3) := by decide +kernel
theorem dJ2_checkIndex_2214a_8 : decode cJ2_checkIndex_2214a 8 = .ok (.return_, 1) := by decide +kernel
theorem dJ7_fill_53178_0 : decode cJ7_fill_53178 0 = .ok (.iconst 0, 1) := by decide +kernel
theorem dJ7_fill_53178_1 : decode cJ7_fill_53178 1 = .ok (.istore_n 2, 1) := by decide +kernel
theorem dJ7_fill_53178_2 : decode cJ7_fill_53178 2 = .ok (.aload_n 0, 1) := by decide +kernel
theorem dJ7_fill_53178_3 : decode cJ7_fill_53178 3 = .ok (.arraylength, 1) := by decide +kernel
theorem dJ7_fill_53178_4 : decode cJ7_fill_53178 4 = .ok (.istore_n 3, 1) := by decide +kernel
theorem dJ7_fill_53178_5 : decode cJ7_fill_53178 5 = .ok (.iload_n 2, 1) := by decide +kernel
theorem dJ7_fill_53178_6 : decode cJ7_fill_53178 6 = .ok (.iload_n 3, 1) := by decide +kernel
theorem dJ7_fill_53178_7 : decode cJ7_fill_53178 7 = .ok (.if_icmp .ge 13, 3) := by decide +kernel
theorem dJ7_fill_53178_10 : decode cJ7_fill_53178 10 = .ok (.aload_n 0, 1) := by decide +kernel
theorem dJ7_fill_53178_11 : decode cJ7_fill_53178 11 = .ok (.iload_n 2, 1) := by decide +kernel
theorem dJ7_fill_53178_12 : decode cJ7_fill_53178 12 = .ok (.iload_n 1, 1) := by decide +kernel
theorem dJ7_fill_53178_13 : decode cJ7_fill_53178 13 = .ok (.iastore, 1) := by decide +kernel
theorem dJ7_fill_53178_14 : decode cJ7_fill_53178 14 = .ok (.iinc 2 1, 3) := by decide +kernel
theorem dJ7_fill_53178_17 : decode cJ7_fill_53178 17 = .ok (.goto (-12), 3) := by decide +kernel
theorem dJ7_fill_53178_20 : decode cJ7_fill_53178 20 = .ok (.return_, 1) := by decide +kernel
theorem dJ3_checkIndex_8e157_0 : decode cJ3_checkIndex_8e157 0 = .ok (.iload_n 0, 1) := by decide +kernel
theorem dJ3_checkIndex_8e157_1 : decode cJ3_checkIndex_8e157 1 = .ok (.ifCond .lt 8, 3) := by decide +kernel
theorem dJ3_checkIndex_8e157_4 : decode cJ3_checkIndex_8e157 4 = .ok (.iload_n 0, 1) := by decide +kernel
theorem dJ3_checkIndex_8e157_5 : decode cJ3_checkIndex_8e157 5 = .ok (.iload_n 1, 1) := by decide +kernel
theorem dJ3_checkIndex_8e157_6 : decode cJ3_checkIndex_8e157 6 = .ok (.if_icmp .lt 10, 3) := by decide +kernel
theorem dJ3_checkIndex_8e157_9 : decode cJ3_checkIndex_8e157 9 = .ok (.aload_n 2, 1) := by decide +kernel
theorem dJ3_checkIndex_8e157_10 : decode cJ3_checkIndex_8e157 10 = .ok (.iload_n 0, 1) := by decide +kernel
theorem dJ3_checkIndex_8e157_11 : decode cJ3_checkIndex_8e157 11 = .ok (.iload_n 1, 1) := by decide +kernel
theorem dJ3_checkIndex_8e157_12 : decode cJ3_checkIndex_8e157 12 = .ok (.invokestatic 95, 3) := by decide +kernel
theorem dJ3_checkIndex_8e157_15 : decode cJ3_checkIndex_8e157 15 = .ok (.athrow, 1) := by decide +kernel
theorem dJ3_checkIndex_8e157_16 : decode cJ3_checkIndex_8e157 16 = .ok (.iload_n 0, 1) := by decide +kernel
theorem dJ3_checkIndex_8e157_17 : decode cJ3_checkIndex_8e157 17 = .ok (.ireturn, 1) := by decide +kernel
end
section
/-! the pure state: ints by cell and place, longs by place -/
abbrev rs_St : Type := (Nat → Nat → Int32) × (Nat → Int64)
def rs_gi (S : rs_St) (k j : Nat) : Int32 := S.1 k j
def rs_si (S : rs_St) (k j : Nat) (v : Int32) : rs_St := (fun a b => if a = k ∧ b = j then v else S.1 a b, S.2)
def rs_gl (S : rs_St) (j : Nat) : Int64 := S.2 j
def rs_sl (S : rs_St) (j : Nat) (v : Int64) : rs_St := (S.1, fun b => if b = j then v else S.2 b)
def rs_sa (S : rs_St) (k : Nat) (f : Nat → Int32) : rs_St := (fun a b => if a = k then f b else S.1 a b, S.2)
abbrev rs_G : Type := va_G × (Nat → Nat) × (Nat → ClassId) × Nat × (Nat → Nat)
def rs_D0 (G : rs_G) : va_G := G.1
def rs_ad (G : rs_G) : Nat → Nat := G.2.1
def rs_cy (G : rs_G) : Nat → ClassId := G.2.2.1
def rs_s0 (G : rs_G) : Nat := G.2.2.2.1
def rs_tb (G : rs_G) : Nat → Nat := G.2.2.2.2
abbrev rs_cl : List vw_C := [(RX0, TX0, 2), (RX1, TX1, 11), (RX2, TX2, 3), (RX3, TX3, 7), (RX4, TX4, 8), (RX5, TX5, 34)]
abbrev rs_tys (G : rs_G) : List (ClassId × FieldType) := [(rs_cy G 0, .int), (rs_cy G 1, .byte), (rs_cy G 2, .boolean), (rs_cy G 3, .object RX0), (rs_cy G 4, .object RX1), (rs_cy G 5, .object RX2)]
def rs_kdL : List Nat := [1, 9, 6, 6, 6, 6, 6, 0, 6, 6, 0, 6, 6, 0, 6, 6, 0, 6, 6, 1, 9, 6, 6, 6, 6, 6, 0, 6, 6, 0, 6, 6, 0, 6, 6, 0, 6, 6, 1, 9, 6, 6, 6, 6, 6, 0, 6, 6, 0, 6, 6, 0, 6, 6, 0, 6, 6, 1, 9, 6, 6, 6, 6, 6, 0, 6, 6, 0, 6, 6, 0, 6, 6, 0, 6, 6, 4, 10, 8, 11, 3, 7, 6, 2, 6, 2, 6, 2, 6, 2, 6, 5, 6, 6, 8, 6, 8, 6, 6, 6, 6, 6, 6, 6, 6, 6]
def rs_lnL : List Nat := [0, 4, 4, 8, 6, 6, 6, 0, 4, 13, 0, 4, 13, 0, 4, 13, 0, 4, 13, 0, 4, 4, 8, 6, 6, 6, 0, 4, 13, 0, 4, 13, 0, 4, 13, 0, 4, 13, 0, 4, 4, 8, 6, 6, 6, 0, 4, 13, 0, 4, 13, 0, 4, 13, 0, 4, 13, 0, 4, 4, 8, 6, 6, 6, 0, 4, 13, 0, 4, 13, 0, 4, 13, 0, 4, 13, 0, 2, 2, 4, 0, 160, 12, 0, 40, 0, 40, 0, 40, 0, 40, 0, 153, 51, 2, 51, 4, 160, 8, 8, 168, 2016, 4, 4, 160, 51]
def rs_kd (k : Nat) : Nat := rs_kdL.getD k 99
def rs_ln (k : Nat) : Nat := rs_lnL.getD k 0
def rs_A (G : rs_G) : Nat → Prop := fun q => rs_s0 G ≤ q
abbrev rs_o0 (G : rs_G) (k : Nat) : List Value := [.ref (rs_ad G (k + 1)), .ref (rs_ad G (k + 2))]
abbrev rs_o1 (G : rs_G) (S : rs_St) (k : Nat) : List Value := [.ref (rs_ad G (k + 1)), .int (rs_gi S k 1), .ref (rs_ad G (k + 2)), .int (rs_gi S k 3), .int (rs_gi S k 4), .ref (rs_ad G (k + 3)), .int (rs_gi S k 6), .ref (rs_ad G (k + 4)), .ref (rs_ad G (k + 5)), .ref (rs_ad G (k + 6)), .int (rs_gi S k 10)]
abbrev rs_o2 (G : rs_G) (S : rs_St) (k : Nat) : List Value := [.ref (rs_ad G (k + 1)), .int (rs_gi S k 1), .int (rs_gi S k 2)]
abbrev rs_o3 (G : rs_G) (S : rs_St) (k : Nat) : List Value := [.ref (rs_ad G (k + 1)), .int (rs_gi S k 1), .int (rs_gi S k 2), .int (rs_gi S k 3), .int (rs_gi S k 4), .int (rs_gi S k 5), .int (rs_gi S k 6)]
abbrev rs_o4 (G : rs_G) (S : rs_St) (k : Nat) : List Value := [.ref (rs_ad G 0), .ref (rs_ad G 19), .ref (rs_ad G 77), .ref (rs_ad G 78), .ref (rs_ad G 79), .ref (rs_ad G 80), .ref (rs_ad G 82), .int (rs_gi S k 7)]
abbrev rs_o5 (G : rs_G) (S : rs_St) (k : Nat) : List Value := [.ref (rs_ad G 92), .ref (rs_ad G 93), .ref (rs_ad G 94), .ref (rs_ad G 95), .ref (rs_ad G 96), .ref (rs_ad G 97), .int (rs_gi S k 6), .int (rs_gi S k 7), .int (rs_gi S k 8), .int (rs_gi S k 9), .int (rs_gi S k 10), .int (rs_gi S k 11), .int (rs_gi S k 12), .int (rs_gi S k 13), .int (rs_gi S k 14), .int (rs_gi S k 15), .int (rs_gi S k 16), .int (rs_gi S k 17), .int (rs_gi S k 18), .int (rs_gi S k 19), .ref (rs_ad G 98), .ref (rs_ad G 99), .int (rs_gi S k 22), .int (rs_gi S k 23), .long (rs_gl S 24), .long (rs_gl S 25), .long (rs_gl S 26), .ref (rs_ad G 100), .ref (rs_ad G 101), .ref (rs_ad G 102), .ref (rs_ad G 103), .ref (rs_ad G 104), .int (rs_gi S k 32), .ref (rs_ad G 105)]
def rs_ee (G : rs_G) (S : rs_St) (k : Nat) : va_E :=
  if rs_kd k = 0 then .inr (0, rs_o0 G k) else if rs_kd k = 1 then .inr (1, rs_o1 G S k) else if rs_kd k = 2 then .inr (2, rs_o2 G S k) else if rs_kd k = 3 then .inr (3, rs_o3 G S k) else if rs_kd k = 4 then .inr (4, rs_o4 G S k) else if rs_kd k = 5 then .inr (5, rs_o5 G S k)
  else if rs_kd k = 6 then .inl (rs_cy G 0, rs_ln k, .inl (S.1 k)) else if rs_kd k = 7 then .inl (rs_cy G 1, rs_ln k, .inl (S.1 k)) else if rs_kd k = 8 then .inl (rs_cy G 2, rs_ln k, .inl (S.1 k))
  else if rs_kd k = 9 then .inl (rs_cy G 3, 4, .inr (.inr (.inr (.inr (fun j => some (rs_ad G (k + 6 + 3 * j))))))) else if rs_kd k = 10 then .inl (rs_cy G 4, 2, .inr (.inr (.inr (.inr (fun j => some (rs_ad G (38 + 19 * j)))))))
  else .inl (rs_cy G 5, 4, .inr (.inr (.inr (.inr (fun j => some (rs_ad G (83 + 2 * j)))))))
def rs_ww (G : rs_G) (S : rs_St) : va_W := (List.range 106).map (fun k => (rs_ad G k, rs_ee G S k))
theorem rs_kd_lt {k n : Nat} (h : rs_kd k = n) (hn : n ≠ 99) : k < 106 := by
  rcases Nat.lt_or_ge k 106 with q | q
  · exact q
  · have : rs_kd k = 99 := by
      unfold rs_kd
      rw [List.getD_eq_getElem?_getD, List.getElem?_eq_none (by show 106 ≤ k; exact q)]
      rfl
    omega
theorem rs_ww_get (G : rs_G) (S : rs_St) {k : Nat} (h : k < 106) : (rs_ww G S)[k]? = some (rs_ad G k, rs_ee G S k) := by
  unfold rs_ww
  rw [List.getElem?_map, List.getElem?_range h]
  rfl
theorem rs_ww_set (G : rs_G) (S S' : rs_St) {k : Nat} (h : k < 106) (e : va_E) (he : rs_ee G S' k = e) (ho : ∀ j, j ≠ k → rs_ee G S' j = rs_ee G S j) : (rs_ww G S).set k (rs_ad G k, e) = rs_ww G S' := by
  apply List.ext_getElem?
  intro j
  rcases Nat.lt_or_ge j 106 with q | q
  · rw [rs_ww_get G S' q]
    by_cases hj : k = j
    · subst hj
      rw [List.getElem?_set_self (by unfold rs_ww; rw [List.length_map, List.length_range]; exact h), he]
    · rw [List.getElem?_set_ne hj, rs_ww_get G S q, ho j (fun z => hj z.symm)]
  · rw [List.getElem?_eq_none (by rw [List.length_set]; unfold rs_ww; rw [List.length_map, List.length_range]; exact q), List.getElem?_eq_none (by unfold rs_ww; rw [List.length_map, List.length_range]; exact q)]
theorem rs_gi_si_ne {S : rs_St} {a k j x : Nat} {v : Int32} (h : a ≠ k) : rs_gi (rs_si S k j v) a x = rs_gi S a x := by
  show (if a = k ∧ x = j then v else S.1 a x) = S.1 a x
  rw [if_neg (fun z => h z.1)]
theorem rs_ee_si {G : rs_G} {S : rs_St} {k j : Nat} {v : Int32} (a : Nat) (h : a ≠ k) : rs_ee G (rs_si S k j v) a = rs_ee G S a := by
  have e : (rs_si S k j v).1 a = S.1 a := by
    funext x
    exact rs_gi_si_ne h
  unfold rs_ee rs_o1 rs_o2 rs_o3 rs_o4 rs_o5
  simp only [rs_gi_si_ne h, e]
  rfl
theorem rs_ee_sl {G : rs_G} {S : rs_St} {j : Nat} {v : Int64} (a : Nat) (h : rs_kd a ≠ 5) : rs_ee G (rs_sl S j v) a = rs_ee G S a := by
  unfold rs_ee
  rw [if_neg h, if_neg h]
  rfl
theorem rs_ee_sa {G : rs_G} {S : rs_St} {k : Nat} {f : Nat → Int32} (a : Nat) (h : a ≠ k) : rs_ee G (rs_sa S k f) a = rs_ee G S a := by
  have e : (rs_sa S k f).1 a = S.1 a := by
    funext x
    show (if a = k then f x else S.1 a x) = S.1 a x
    rw [if_neg h]
  have e2 : ∀ x, rs_gi (rs_sa S k f) a x = rs_gi S a x := fun x => congrFun e x
  unfold rs_ee rs_o1 rs_o2 rs_o3 rs_o4 rs_o5
  simp only [e2, e]
  rfl
theorem rs_si_arr (S : rs_St) (k j : Nat) (v : Int32) : (rs_si S k j v).1 k = upd (S.1 k) j v := by
  funext b
  show (if k = k ∧ b = j then v else S.1 k b) = if b = j then v else S.1 k b
  by_cases h : b = j
  · rw [if_pos ⟨rfl, h⟩, if_pos h]
  · rw [if_neg (fun z => h z.2), if_neg h]
theorem rs_sa_arr (S : rs_St) (k : Nat) (f : Nat → Int32) : (rs_sa S k f).1 k = f := by
  funext b
  show (if k = k then f b else S.1 k b) = f b
  rw [if_pos rfl]
def rs_ok (G : rs_G) : Prop := (∀ i j, i < 106 → j < 106 → rs_ad G i = rs_ad G j → i = j) ∧ ∀ i, i < 106 → rs_s0 G ≤ rs_ad G i
theorem rs_lt_of_get {G : rs_G} {S : rs_St} {k : Nat} {q : Nat × va_E} (h : (rs_ww G S)[k]? = some q) : k < 106 ∧ q = (rs_ad G k, rs_ee G S k) := by
  rcases Nat.lt_or_ge k 106 with z | z
  · rw [rs_ww_get G S z] at h
    exact ⟨z, (Option.some.inj h).symm⟩
  · rw [List.getElem?_eq_none (by unfold rs_ww; rw [List.length_map, List.length_range]; exact z)] at h
    cases h
theorem rs_va_D {G : rs_G} (hG : rs_ok G) (S : rs_St) : va_D (rs_A G) (rs_ww G S) := by
  refine ⟨fun i j p q hi hj e => ?_, fun k q hk => ?_⟩
  · obtain ⟨a1, rfl⟩ := rs_lt_of_get hi
    obtain ⟨b1, rfl⟩ := rs_lt_of_get hj
    exact hG.1 i j a1 b1 e
  · obtain ⟨a1, rfl⟩ := rs_lt_of_get hk
    exact hG.2 k a1
theorem rs_e0 {G : rs_G} {S : rs_St} {k : Nat} (h : rs_kd k = 0) : rs_ee G S k = .inr (0, rs_o0 G k) := by
  unfold rs_ee
  simp only [h]
  rfl
theorem rs_e1 {G : rs_G} {S : rs_St} {k : Nat} (h : rs_kd k = 1) : rs_ee G S k = .inr (1, rs_o1 G S k) := by
  unfold rs_ee
  simp only [h]
  rfl
theorem rs_e2 {G : rs_G} {S : rs_St} {k : Nat} (h : rs_kd k = 2) : rs_ee G S k = .inr (2, rs_o2 G S k) := by
  unfold rs_ee
  simp only [h]
  rfl
theorem rs_e3 {G : rs_G} {S : rs_St} {k : Nat} (h : rs_kd k = 3) : rs_ee G S k = .inr (3, rs_o3 G S k) := by
  unfold rs_ee
  simp only [h]
  rfl
theorem rs_e4 {G : rs_G} {S : rs_St} {k : Nat} (h : rs_kd k = 4) : rs_ee G S k = .inr (4, rs_o4 G S k) := by
  unfold rs_ee
  simp only [h]
  rfl
theorem rs_e5 {G : rs_G} {S : rs_St} {k : Nat} (h : rs_kd k = 5) : rs_ee G S k = .inr (5, rs_o5 G S k) := by
  unfold rs_ee
  simp only [h]
  rfl
theorem rs_e6 {G : rs_G} {S : rs_St} {k : Nat} (h : rs_kd k = 6) : rs_ee G S k = .inl (rs_cy G 0, rs_ln k, .inl (S.1 k)) := by
  unfold rs_ee
  simp only [h]
  rfl
theorem rs_e7 {G : rs_G} {S : rs_St} {k : Nat} (h : rs_kd k = 7) : rs_ee G S k = .inl (rs_cy G 1, rs_ln k, .inl (S.1 k)) := by
  unfold rs_ee
  simp only [h]
  rfl
theorem rs_e8 {G : rs_G} {S : rs_St} {k : Nat} (h : rs_kd k = 8) : rs_ee G S k = .inl (rs_cy G 2, rs_ln k, .inl (S.1 k)) := by
  unfold rs_ee
  simp only [h]
  rfl
theorem rs_e9 {G : rs_G} {S : rs_St} {k : Nat} (h : rs_kd k = 9) : rs_ee G S k = .inl (rs_cy G 3, 4, .inr (.inr (.inr (.inr (fun j => some (rs_ad G (k + 6 + 3 * j))))))) := by
  unfold rs_ee
  simp only [h]
  rfl
theorem rs_e10 {G : rs_G} {S : rs_St} {k : Nat} (h : rs_kd k = 10) : rs_ee G S k = .inl (rs_cy G 4, 2, .inr (.inr (.inr (.inr (fun j => some (rs_ad G (38 + 19 * j))))))) := by
  unfold rs_ee
  simp only [h]
  rfl
theorem rs_e11 {G : rs_G} {S : rs_St} {k : Nat} (h : rs_kd k = 11) : rs_ee G S k = .inl (rs_cy G 5, 4, .inr (.inr (.inr (.inr (fun j => some (rs_ad G (83 + 2 * j))))))) := by
  unfold rs_ee
  simp only [h]
  rfl
theorem rs_k0 : ∀ k, k < 106 → rs_kd k = 0 → rs_kd (k + 1) = 6 ∧ rs_kd (k + 2) = 6 ∧ rs_ln (k + 1) = 4 ∧ rs_ln (k + 2) = 13 := by decide +kernel
theorem rs_k1 : ∀ k, k < 106 → rs_kd k = 1 → rs_kd (k + 1) = 9 ∧ rs_kd (k + 2) = 6 ∧ rs_kd (k + 3) = 6 ∧ rs_kd (k + 4) = 6 ∧ rs_kd (k + 5) = 6 ∧ rs_kd (k + 6) = 6 := by decide +kernel
theorem rs_k2 : ∀ k, k < 106 → rs_kd k = 2 → rs_kd (k + 1) = 6 ∧ rs_ln (k + 1) = 40 := by decide +kernel
theorem rs_k9 : ∀ k, k < 106 → rs_kd k = 9 → ∀ j, j < 4 → rs_kd (k + 6 + 3 * j) = 0 := by decide +kernel
theorem rs_k10 : ∀ j, j < 2 → rs_kd (38 + 19 * j) = 1 := by decide +kernel
theorem rs_k11 : ∀ j, j < 4 → rs_kd (83 + 2 * j) = 2 := by decide +kernel
theorem rs_k0a {k : Nat} (h : rs_kd k = 0) : rs_kd (k + 1) = 6 := (rs_k0 k (rs_kd_lt h (by decide)) h).1
theorem rs_k0b {k : Nat} (h : rs_kd k = 0) : rs_kd (k + 2) = 6 := (rs_k0 k (rs_kd_lt h (by decide)) h).2.1
theorem rs_k1a {k : Nat} (h : rs_kd k = 1) : rs_kd (k + 1) = 9 := (rs_k1 k (rs_kd_lt h (by decide)) h).1
theorem rs_k1b {k : Nat} (h : rs_kd k = 1) : rs_kd (k + 2) = 6 := (rs_k1 k (rs_kd_lt h (by decide)) h).2.1
theorem rs_k1c {k : Nat} (h : rs_kd k = 1) : rs_kd (k + 3) = 6 := (rs_k1 k (rs_kd_lt h (by decide)) h).2.2.1
theorem rs_k1d {k : Nat} (h : rs_kd k = 1) : rs_kd (k + 4) = 6 := (rs_k1 k (rs_kd_lt h (by decide)) h).2.2.2.1
theorem rs_k1e {k : Nat} (h : rs_kd k = 1) : rs_kd (k + 5) = 6 := (rs_k1 k (rs_kd_lt h (by decide)) h).2.2.2.2.1
theorem rs_k1f {k : Nat} (h : rs_kd k = 1) : rs_kd (k + 6) = 6 := (rs_k1 k (rs_kd_lt h (by decide)) h).2.2.2.2.2
theorem rs_k2a {k : Nat} (h : rs_kd k = 2) : rs_kd (k + 1) = 6 := (rs_k2 k (rs_kd_lt h (by decide)) h).1
end
section
/-! the words: the good ones of the tables; what else a state must say -/
def rs_wg : List Cond := lw_tbl.filter goodWord
def rs_wz (y : MethodName) (b : ByteArray) (n : Nat) (r : Option FieldType) : List Cond := .code y b n r :: rs_wg
def rs_nf : List (String × Nat × String) := [(RX1, 34, "RULE_FIRST"), (RX3, 60, "PART_LEAST"), (RX3, 64, "PART_MOST"), (RX3, 75, "RULE_LEAST"), (RX3, 78, "RULE_MOST")]
def rs_nm : List (String × Nat × MethodName) := [(RX3, 84, yX4_outside), (RX0, 24, yX4_isPart)]
def rs_sn (i : Nat) : String := ["PART_LEAST", "PART_MOST", "RULE_LEAST", "RULE_MOST", "RULE_FIRST"].getD i ""
def rs_sv (i : Nat) : Nat → Int32 := fun j => (([[0, 1, 1, 0], [3, 9, 12, 11], [1, 0, 1, 1], [8, 9, 20, 60], [4, 2, 4, 20]] : List (List Int32)).getD i []).getD j 0
def rs_tx (i : Nat) : String := ["steady", "blink", "saw", "pair", "rows", "delay", "expose", "pace"].getD i ""
def rs_tl : List Nat := [6, 5, 3, 4, 4, 5, 6, 4]
def rs_tv : List (List Int32) := [[115, 116, 101, 97, 100, 121], [98, 108, 105, 110, 107], [115, 97, 119], [112, 97, 105, 114], [114, 111, 119, 115], [100, 101, 108, 97, 121], [101, 120, 112, 111, 115, 101], [112, 97, 99, 101]]
def rs_ks (G : rs_G) (U : State) : Prop := (∀ i, i < 8 → vk_R RX3 (108 + 2 * i) (rs_tx i) (rs_tb G (5 + i)) U) ∧ vk_S 8 rs_tl rs_tv (fun i => rs_tb G (5 + i)) (fun i => rs_tb G (13 + i)) (rs_A G) U U.heap ∧ va_Z "java/lang/String" "COMPACT_STRINGS" "Z" (.int 1) (rs_A G) U U.heap ∧ va_Zq "jdk/internal/util/Preconditions" "SIOOBE_FORMATTER" "Ljava/util/function/BiFunction;" (rs_A G) U U.heap
def rs_kf (G : rs_G) (U : State) : Prop := va_K (rs_D0 G) rs_cl (rs_tys G) U ∧ rs_s0 G ≤ U.heap.size ∧ (∀ q ∈ rs_nf, va_Nw (.fieldLinkNest q.1 q.2.1 RX4 q.2.2 "[I" RX4) U) ∧ (∀ q ∈ rs_nm, va_Nw (.methodLinkNest q.1 q.2.1 q.2.2 RX4) U) ∧ (∀ i, i < 5 → va_Z RX4 (rs_sn i) "[I" (.ref (rs_tb G i)) (rs_A G) U U.heap ∧ va_X (rs_tb G i) 4 (rs_sv i) U U.heap ∧ rs_tb G i < rs_s0 G) ∧ rs_ks G U
theorem rs_kf_to {G : rs_G} {s U : State} {H : Heap} {locs : List Loc} (h : rs_kf G s) (hS : va_S (rs_A G) s.heap H locs) (hU : U.heap = H) (hW : s.WarmedH U.vm) : rs_kf G U := by
  obtain ⟨h1, h2, h3, h4, h5, h6, h7, h8, h9⟩ := h
  have hvm := hW.alike
  have hq : ∀ a : Nat, a < s.heap.size → ¬ rs_A G a → H[a]? = s.heap[a]? := hS.2.1
  subst hU
  refine ⟨va_K.moved hvm h1, Nat.le_trans h2 hS.1, fun q hq => (h3 q hq).warmF hW, fun q hq => (h4 q hq).warmM hW, fun i hi => ?_, fun i hi => (h6 i hi).warm hW, (vk_S.moved hvm h7).kept hq, (va_Z.moved hvm h8).kept hq, (va_Zq.moved hvm h9).kept hq⟩
  obtain ⟨a1, a2, a3⟩ := h5 i hi
  exact ⟨(va_Z.moved hvm a1).kept hq, (va_X.moved hvm a2).kept (hq _ (Nat.lt_of_lt_of_le a3 h2) (Nat.not_le.mpr a3)), a3⟩
theorem rs_kf_blind {G : rs_G} {U : State} {g : JFrame} {mk : MethodId} {a : Array Value} (h : rs_kf G U) : rs_kf G (U.calling g mk a) := by
  obtain ⟨h1, h2, h3, h4, h5, h6, h7, h8, h9⟩ := h
  have hvm : U.vm.Alike (U.calling g mk a).vm := Vm.Alike.refl U.vm
  refine ⟨va_K.moved hvm h1, h2, fun q hq => (h3 q hq).same rfl rfl, fun q hq => (h4 q hq).same rfl rfl, fun i hi => ⟨va_Z.moved hvm (h5 i hi).1, va_X.moved hvm (h5 i hi).2.1, (h5 i hi).2.2⟩, fun i hi => (h6 i hi).same rfl, vk_S.moved hvm h7, va_Z.moved hvm h8, va_Zq.moved hvm h9⟩
def rs_pre (G : rs_G) (S : rs_St) (U : State) : Prop := va_P (rs_D0 G) rs_cl (rs_ww G S) U.heap ∧ rs_kf G U
def rs_post (G : rs_G) (S : rs_St) (t : State) : Prop := va_P (rs_D0 G) rs_cl (rs_ww G S) t.heap
theorem rs_blind (G : rs_G) (S : rs_St) (av : List Value) : FrameBlind (va_Pc av (rs_pre G S)) := fun _ _ _ _ q => ⟨q.1, q.2.1, rs_kf_blind q.2.2⟩
/-! locals -/
def rs_at : List (Nat × Value) → Nat → Option Value
  | [], _ => none
  | q :: t, i => bif Nat.beq q.1 i then some q.2 else rs_at t i
theorem rs_at_mem : ∀ {lv : List (Nat × Value)} {i : Nat} {v : Value}, rs_at lv i = some v → (i, v) ∈ lv
  | [], _, _, h => by cases h
  | q :: t, i, v, h => by
    unfold rs_at at h
    cases hb : Nat.beq q.1 i with
    | true =>
      rw [hb] at h
      have e : q.1 = i := Nat.eq_of_beq_eq_true hb
      have e2 : q.2 = v := Option.some.inj h
      rw [← e, ← e2]
      exact List.mem_cons_self
    | false =>
      rw [hb] at h
      exact List.mem_cons_of_mem _ (rs_at_mem h)
theorem rs_at_has {ls : Array Slot} {nL : Nat} {lv : List (Nat × Value)} {i : Nat} {v : Value} (h : lv_has ls nL lv) (ha : rs_at lv i = some v) : ls[i]? = some (.val v) := h.2.2 (i, v) (rs_at_mem ha)
def rs_set (lv : List (Nat × Value)) (i : Nat) (v : Value) : List (Nat × Value) := (i, v) :: lv.filter (fun q => !(q.1 == i) && !(q.1 + 1 == i && q.2.category == 2))
def rs_set2 (lv : List (Nat × Value)) (i : Nat) (v : Value) : List (Nat × Value) := (i, v) :: lv.filter (fun q => !(q.1 == i) && (!(q.1 == i + 1) && !(q.1 + 1 == i && q.2.category == 2)))
def rs_all (lv : List (Nat × Value)) : List (Nat × Value) → Prop
  | [] => True
  | q :: t => rs_at lv q.1 = some q.2 ∧ rs_all lv t
theorem rs_all_has {ls : Array Slot} {nL : Nat} {lv : List (Nat × Value)} (h : lv_has ls nL lv) : ∀ {l2 : List (Nat × Value)}, rs_all lv l2 → lv_has ls nL l2
  | [], _ => ⟨h.1, h.2.1, fun _ q => by cases q⟩
  | q :: t, ha => by
    refine ⟨h.1, h.2.1, fun z hz => ?_⟩
    rcases List.mem_cons.mp hz with e | e
    · rw [e]
      exact rs_at_has h ha.1
    · exact (rs_all_has h ha.2).2.2 z e
/-! the judgement, without heap and slots -/
def rs_X (G : rs_G) (nL : Nat) (p : Program) (l : Launch) (e : Env) (R : Room) (s : State) (m : MethodId) (args : Array Value) (below : List Frame) (meth : Method) (c : Code) (Q : State → Prop) (S : rs_St) (pc : Nat) (lv : List (Nat × Value)) (st : List Value) : Prop := ∀ (H : Heap) (locs : List Loc) (ls : Array Slot), va_P (rs_D0 G) rs_cl (rs_ww G S) H → va_S (rs_A G) s.heap H locs → lv_has ls nL lv → W p l e R s m args below meth c H locs 0 0 Q (F0 m pc ls st)
def rs_C (G : rs_G) (cc : ByteArray) (nL : Nat) (own : String) (p : Program) (s : State) (m : MethodId) (args : Array Value) (c : Code) : Prop := p.tables.exec = Jvm.exec ∧ c.code = cc ∧ c.maxLocals = nL ∧ s.vm.findClass own = some m.cls ∧ (∀ w ∈ rs_wg, w.before args s = true) ∧ rs_kf G s ∧ rs_ok G
theorem rs_ip {α : Sort _} {c : Prop} [d : Decidable c] {a b : α} {P : α → Prop} (hc : c) (h : P (if c then a else b)) : P a := by rw [if_pos hc] at h; exact h
theorem rs_it {α : Type} {c : Prop} [d : Decidable c] {a b : Option α} {o : Option α} (hc : c) (h : (if c then a else b) = o) : a = o := by rw [if_pos hc] at h; exact h
theorem rs_if {α : Type} {c : Prop} [d : Decidable c] {a b : Option α} {o : Option α} (hc : ¬ c) (h : (if c then a else b) = o) : b = o := by rw [if_neg hc] at h; exact h
theorem rs_ck {α : Type} {c : Prop} [d : Decidable c] {b : Option α} {o : α} (h : (if c then none else b) = some o) : ¬ c ∧ b = some o := by
  by_cases hc : c
  · rw [if_pos hc] at h; cases h
  · rw [if_neg hc] at h; exact ⟨hc, h⟩
theorem rs_ckp {α : Type} {c : Prop} [d : Decidable c] {b : Option α} {o : α} (h : (if c then b else none) = some o) : c ∧ b = some o := by
  by_cases hc : c
  · rw [if_pos hc] at h; exact ⟨hc, h⟩
  · rw [if_neg hc] at h; cases h
theorem rs_bd {α β : Type} {x : Option α} {f : α → Option β} {o : β} (h : x.bind f = some o) : ∃ a, x = some a ∧ f a = some o := Option.bind_eq_some_iff.mp h
section rsRules
variable {G : rs_G} {cc : ByteArray} {nL : Nat} {own : String} {p : Program} {l : Launch} {e : Env} {R : Room} {s : State} {m : MethodId} {args : Array Value} {below : List Frame} {meth : Method} {c : Code} {Q : State → Prop} {S : rs_St} {pc pd : Nat} {lv : List (Nat × Value)} {st rest : List Value}
theorem rs_iconst (C : rs_C G cc nL own p s m args c) {n : Int} {v : Int32} (hd : decode cc pc = .ok (.iconst n, 1)) (hv : Int32.ofInt n = v) (hn : pc + 1 = pd) (k : rs_X G nL p l e R s m args below meth c Q S pd lv (.int v :: rest)) : rs_X G nL p l e R s m args below meth c Q S pc lv (rest) := by
  subst hn
  exact fun H locs ls hP hS hl => lv_iconst C.1 C.2.1 hd hv (k H locs ls hP hS hl)
theorem rs_bipush (C : rs_C G cc nL own p s m args c) {n : Int} {v : Int32} (hd : decode cc pc = .ok (.bipush n, 2)) (hv : (Int8.ofInt n).toInt32 = v) (hn : pc + 2 = pd) (k : rs_X G nL p l e R s m args below meth c Q S pd lv (.int v :: rest)) : rs_X G nL p l e R s m args below meth c Q S pc lv (rest) := by
  subst hn
  exact fun H locs ls hP hS hl => lv_bipush C.1 C.2.1 hd hv (k H locs ls hP hS hl)
theorem rs_sipush (C : rs_C G cc nL own p s m args c) {n : Int} {v : Int32} (hd : decode cc pc = .ok (.sipush n, 3)) (hv : (Int16.ofInt n).toInt32 = v) (hn : pc + 3 = pd) (k : rs_X G nL p l e R s m args below meth c Q S pd lv (.int v :: rest)) : rs_X G nL p l e R s m args below meth c Q S pc lv (rest) := by
  subst hn
  exact fun H locs ls hP hS hl => lv_sipush C.1 C.2.1 hd hv (k H locs ls hP hS hl)
theorem rs_lconst (C : rs_C G cc nL own p s m args c) {n : Fin 2} {v : Int64} (hd : decode cc pc = .ok (.lconst n, 1)) (hv : Int64.ofNat (n : Nat) = v) (hn : pc + 1 = pd) (k : rs_X G nL p l e R s m args below meth c Q S pd lv (.long v :: rest)) : rs_X G nL p l e R s m args below meth c Q S pc lv (rest) := by
  subst hn
  exact fun H locs ls hP hS hl => lv_lconst C.1 C.2.1 hd hv (k H locs ls hP hS hl)
theorem rs_ldc (C : rs_C G cc nL own p s m args c) {index : Nat} {v : Int32} (hd : decode cc pc = .ok (.ldc index, 2)) (hw : Cond.constant own index v ∈ rs_wg) (hn : pc + 2 = pd) (k : rs_X G nL p l e R s m args below meth c Q S pd lv (.int v :: rest)) : rs_X G nL p l e R s m args below meth c Q S pc lv (rest) := by
  subst hn
  exact fun H locs ls hP hS hl => lv_ldc C.1 C.2.1 C.2.2.2.1 (C.2.2.2.2.1 _ hw) hd (k H locs ls hP hS hl)
theorem rs_ldcw (C : rs_C G cc nL own p s m args c) {index : Nat} {v : Int32} (hd : decode cc pc = .ok (.ldc_w index, 3)) (hw : Cond.constant own index v ∈ rs_wg) (hn : pc + 3 = pd) (k : rs_X G nL p l e R s m args below meth c Q S pd lv (.int v :: rest)) : rs_X G nL p l e R s m args below meth c Q S pc lv (rest) := by
  subst hn
  exact fun H locs ls hP hS hl => lv_ldcw C.1 C.2.1 C.2.2.2.1 (C.2.2.2.2.1 _ hw) hd (k H locs ls hP hS hl)
theorem rs_ldc2 (C : rs_C G cc nL own p s m args c) {index : Nat} {v : Int64} (hd : decode cc pc = .ok (.ldc2_w index, 3)) (hw : Cond.constantLong own index v ∈ rs_wg) (hn : pc + 3 = pd) (k : rs_X G nL p l e R s m args below meth c Q S pd lv (.long v :: rest)) : rs_X G nL p l e R s m args below meth c Q S pc lv (rest) := by
  subst hn
  exact fun H locs ls hP hS hl => lv_ldc2 C.1 C.2.1 C.2.2.2.1 (C.2.2.2.2.1 _ hw) hd (k H locs ls hP hS hl)
theorem rs_null (C : rs_C G cc nL own p s m args c)  (hd : decode cc pc = .ok (.aconst_null, 1)) (hn : pc + 1 = pd) (k : rs_X G nL p l e R s m args below meth c Q S pd lv (.null :: rest)) : rs_X G nL p l e R s m args below meth c Q S pc lv (rest) := by
  subst hn
  exact fun H locs ls hP hS hl => lv_null C.1 C.2.1 hd (k H locs ls hP hS hl)
theorem rs_iload_n (C : rs_C G cc nL own p s m args c) {k0 : Fin 4} {i : Nat} {x : Int32} (hd : decode cc pc = .ok (.iload_n k0, 1)) (hi : (k0 : Nat) = i) (ha : rs_at lv i = some (.int x)) (hn : pc + 1 = pd) (k : rs_X G nL p l e R s m args below meth c Q S pd lv (.int x :: rest)) : rs_X G nL p l e R s m args below meth c Q S pc lv (rest) := by
  subst hn
  exact fun H locs ls hP hS hl => lv_iload_n C.1 C.2.1 hd hi (rs_at_has hl ha) (k H locs ls hP hS hl)
theorem rs_iload (C : rs_C G cc nL own p s m args c) {i : Nat} {x : Int32} (hd : decode cc pc = .ok (.iload i, 2)) (ha : rs_at lv i = some (.int x)) (hn : pc + 2 = pd) (k : rs_X G nL p l e R s m args below meth c Q S pd lv (.int x :: rest)) : rs_X G nL p l e R s m args below meth c Q S pc lv (rest) := by
  subst hn
  exact fun H locs ls hP hS hl => lv_iload C.1 C.2.1 hd (rs_at_has hl ha) (k H locs ls hP hS hl)
theorem rs_lload_n (C : rs_C G cc nL own p s m args c) {k0 : Fin 4} {i : Nat} {x : Int64} (hd : decode cc pc = .ok (.lload_n k0, 1)) (hi : (k0 : Nat) = i) (ha : rs_at lv i = some (.long x)) (hn : pc + 1 = pd) (k : rs_X G nL p l e R s m args below meth c Q S pd lv (.long x :: rest)) : rs_X G nL p l e R s m args below meth c Q S pc lv (rest) := by
  subst hn
  exact fun H locs ls hP hS hl => lv_lload_n C.1 C.2.1 hd hi (rs_at_has hl ha) (k H locs ls hP hS hl)
theorem rs_lload (C : rs_C G cc nL own p s m args c) {i : Nat} {x : Int64} (hd : decode cc pc = .ok (.lload i, 2)) (ha : rs_at lv i = some (.long x)) (hn : pc + 2 = pd) (k : rs_X G nL p l e R s m args below meth c Q S pd lv (.long x :: rest)) : rs_X G nL p l e R s m args below meth c Q S pc lv (rest) := by
  subst hn
  exact fun H locs ls hP hS hl => lv_lload C.1 C.2.1 hd (rs_at_has hl ha) (k H locs ls hP hS hl)
theorem rs_aload_n (C : rs_C G cc nL own p s m args c) {k0 : Fin 4} {i : Nat} {x : Nat} (hd : decode cc pc = .ok (.aload_n k0, 1)) (hi : (k0 : Nat) = i) (ha : rs_at lv i = some (.ref x)) (hn : pc + 1 = pd) (k : rs_X G nL p l e R s m args below meth c Q S pd lv (.ref x :: rest)) : rs_X G nL p l e R s m args below meth c Q S pc lv (rest) := by
  subst hn
  exact fun H locs ls hP hS hl => lv_aload_n C.1 C.2.1 hd hi (rs_at_has hl ha) (k H locs ls hP hS hl)
theorem rs_aload (C : rs_C G cc nL own p s m args c) {i : Nat} {x : Nat} (hd : decode cc pc = .ok (.aload i, 2)) (ha : rs_at lv i = some (.ref x)) (hn : pc + 2 = pd) (k : rs_X G nL p l e R s m args below meth c Q S pd lv (.ref x :: rest)) : rs_X G nL p l e R s m args below meth c Q S pc lv (rest) := by
  subst hn
  exact fun H locs ls hP hS hl => lv_aload C.1 C.2.1 hd (rs_at_has hl ha) (k H locs ls hP hS hl)
theorem rs_istore_n (C : rs_C G cc nL own p s m args c) {k0 : Fin 4} {i : Nat} {x : Int32} (hd : decode cc pc = .ok (.istore_n k0, 1)) (hi : (k0 : Nat) = i) (hb : i < nL) (hn : pc + 1 = pd) (k : rs_X G nL p l e R s m args below meth c Q S pd (rs_set lv i (.int x)) rest) : rs_X G nL p l e R s m args below meth c Q S pc lv (.int x :: rest) := by
  subst hn
  exact fun H locs ls hP hS hl => lv_istore_n C.1 C.2.1 hd hi hl hb rfl (fun ls2 hl2 => k H locs ls2 hP hS hl2)
theorem rs_istore (C : rs_C G cc nL own p s m args c) {i : Nat} {x : Int32} (hd : decode cc pc = .ok (.istore i, 2)) (hb : i < nL) (hn : pc + 2 = pd) (k : rs_X G nL p l e R s m args below meth c Q S pd (rs_set lv i (.int x)) rest) : rs_X G nL p l e R s m args below meth c Q S pc lv (.int x :: rest) := by
  subst hn
  exact fun H locs ls hP hS hl => lv_istore C.1 C.2.1 hd hl hb rfl (fun ls2 hl2 => k H locs ls2 hP hS hl2)
theorem rs_astore_n (C : rs_C G cc nL own p s m args c) {k0 : Fin 4} {i : Nat} {x : Nat} (hd : decode cc pc = .ok (.astore_n k0, 1)) (hi : (k0 : Nat) = i) (hb : i < nL) (hn : pc + 1 = pd) (k : rs_X G nL p l e R s m args below meth c Q S pd (rs_set lv i (.ref x)) rest) : rs_X G nL p l e R s m args below meth c Q S pc lv (.ref x :: rest) := by
  subst hn
  exact fun H locs ls hP hS hl => lv_astore_n C.1 C.2.1 hd hi hl hb rfl (fun ls2 hl2 => k H locs ls2 hP hS hl2)
theorem rs_astore (C : rs_C G cc nL own p s m args c) {i : Nat} {x : Nat} (hd : decode cc pc = .ok (.astore i, 2)) (hb : i < nL) (hn : pc + 2 = pd) (k : rs_X G nL p l e R s m args below meth c Q S pd (rs_set lv i (.ref x)) rest) : rs_X G nL p l e R s m args below meth c Q S pc lv (.ref x :: rest) := by
  subst hn
  exact fun H locs ls hP hS hl => lv_astore C.1 C.2.1 hd hl hb rfl (fun ls2 hl2 => k H locs ls2 hP hS hl2)
theorem rs_lstore_n (C : rs_C G cc nL own p s m args c) {k0 : Fin 4} {i : Nat} {x : Int64} (hd : decode cc pc = .ok (.lstore_n k0, 1)) (hi : (k0 : Nat) = i) (hb : i + 1 < nL) (hn : pc + 1 = pd) (k : rs_X G nL p l e R s m args below meth c Q S pd (rs_set2 lv i (.long x)) rest) : rs_X G nL p l e R s m args below meth c Q S pc lv (.long x :: rest) := by
  subst hn
  exact fun H locs ls hP hS hl => lv_lstore_n C.1 C.2.1 hd hi hl hb rfl (fun ls2 hl2 => k H locs ls2 hP hS hl2)
theorem rs_lstore (C : rs_C G cc nL own p s m args c) {i : Nat} {x : Int64} (hd : decode cc pc = .ok (.lstore i, 2)) (hb : i + 1 < nL) (hn : pc + 2 = pd) (k : rs_X G nL p l e R s m args below meth c Q S pd (rs_set2 lv i (.long x)) rest) : rs_X G nL p l e R s m args below meth c Q S pc lv (.long x :: rest) := by
  subst hn
  exact fun H locs ls hP hS hl => lv_lstore C.1 C.2.1 hd hl hb rfl (fun ls2 hl2 => k H locs ls2 hP hS hl2)
theorem rs_iinc_aux {lv : List (Nat × Value)} {i : Nat} {x : Int32} (h : rs_at lv i = some (.int x)) : ∃ k : Nat, lv[k]? = some (i, .int x) := List.mem_iff_getElem?.mp (rs_at_mem h)
theorem rs_iinc (C : rs_C G cc nL own p s m args c) {i : Nat} {n : Int} {x v : Int32} (hd : decode cc pc = .ok (.iinc i n, 3)) (ha : rs_at lv i = some (.int x)) (hv : Int32.ofInt n = v) (hb : i < nL) (hn : pc + 3 = pd) (k : rs_X G nL p l e R s m args below meth c Q S pd (rs_set lv i (.int (x + v))) rest) : rs_X G nL p l e R s m args below meth c Q S pc lv rest := by
  subst hn
  subst hv
  obtain ⟨q, hq⟩ := rs_iinc_aux ha
  exact fun H locs ls hP hS hl => lv_iinc C.1 C.2.1 hd hl hq rfl hb rfl (fun ls2 hl2 => k H locs ls2 hP hS hl2)
theorem rs_iadd (C : rs_C G cc nL own p s m args c) {x y : Int32} (hd : decode cc pc = .ok (.iadd, 1)) (hn : pc + 1 = pd) (k : rs_X G nL p l e R s m args below meth c Q S pd lv (.int (x + y) :: rest)) : rs_X G nL p l e R s m args below meth c Q S pc lv (.int y :: .int x :: rest) := by
  subst hn
  exact fun H locs ls hP hS hl => lv_iadd C.1 C.2.1 hd (k H locs ls hP hS hl)
theorem rs_isub (C : rs_C G cc nL own p s m args c) {x y : Int32} (hd : decode cc pc = .ok (.isub, 1)) (hn : pc + 1 = pd) (k : rs_X G nL p l e R s m args below meth c Q S pd lv (.int (x - y) :: rest)) : rs_X G nL p l e R s m args below meth c Q S pc lv (.int y :: .int x :: rest) := by
  subst hn
  exact fun H locs ls hP hS hl => lv_isub C.1 C.2.1 hd (k H locs ls hP hS hl)
theorem rs_imul (C : rs_C G cc nL own p s m args c) {x y : Int32} (hd : decode cc pc = .ok (.imul, 1)) (hn : pc + 1 = pd) (k : rs_X G nL p l e R s m args below meth c Q S pd lv (.int (x * y) :: rest)) : rs_X G nL p l e R s m args below meth c Q S pc lv (.int y :: .int x :: rest) := by
  subst hn
  exact fun H locs ls hP hS hl => lv_imul C.1 C.2.1 hd (k H locs ls hP hS hl)
theorem rs_iand (C : rs_C G cc nL own p s m args c) {x y : Int32} (hd : decode cc pc = .ok (.iand, 1)) (hn : pc + 1 = pd) (k : rs_X G nL p l e R s m args below meth c Q S pd lv (.int (x &&& y) :: rest)) : rs_X G nL p l e R s m args below meth c Q S pc lv (.int y :: .int x :: rest) := by
  subst hn
  exact fun H locs ls hP hS hl => lv_iand C.1 C.2.1 hd (k H locs ls hP hS hl)
theorem rs_ior (C : rs_C G cc nL own p s m args c) {x y : Int32} (hd : decode cc pc = .ok (.ior, 1)) (hn : pc + 1 = pd) (k : rs_X G nL p l e R s m args below meth c Q S pd lv (.int (x ||| y) :: rest)) : rs_X G nL p l e R s m args below meth c Q S pc lv (.int y :: .int x :: rest) := by
  subst hn
  exact fun H locs ls hP hS hl => lv_ior C.1 C.2.1 hd (k H locs ls hP hS hl)
theorem rs_ixor (C : rs_C G cc nL own p s m args c) {x y : Int32} (hd : decode cc pc = .ok (.ixor, 1)) (hn : pc + 1 = pd) (k : rs_X G nL p l e R s m args below meth c Q S pd lv (.int (x ^^^ y) :: rest)) : rs_X G nL p l e R s m args below meth c Q S pc lv (.int y :: .int x :: rest) := by
  subst hn
  exact fun H locs ls hP hS hl => lv_ixor C.1 C.2.1 hd (k H locs ls hP hS hl)
theorem rs_ladd (C : rs_C G cc nL own p s m args c) {x y : Int64} (hd : decode cc pc = .ok (.ladd, 1)) (hn : pc + 1 = pd) (k : rs_X G nL p l e R s m args below meth c Q S pd lv (.long (x + y) :: rest)) : rs_X G nL p l e R s m args below meth c Q S pc lv (.long y :: .long x :: rest) := by
  subst hn
  exact fun H locs ls hP hS hl => lv_ladd C.1 C.2.1 hd (k H locs ls hP hS hl)
theorem rs_lsub (C : rs_C G cc nL own p s m args c) {x y : Int64} (hd : decode cc pc = .ok (.lsub, 1)) (hn : pc + 1 = pd) (k : rs_X G nL p l e R s m args below meth c Q S pd lv (.long (x - y) :: rest)) : rs_X G nL p l e R s m args below meth c Q S pc lv (.long y :: .long x :: rest) := by
  subst hn
  exact fun H locs ls hP hS hl => lv_lsub C.1 C.2.1 hd (k H locs ls hP hS hl)
theorem rs_lmul (C : rs_C G cc nL own p s m args c) {x y : Int64} (hd : decode cc pc = .ok (.lmul, 1)) (hn : pc + 1 = pd) (k : rs_X G nL p l e R s m args below meth c Q S pd lv (.long (x * y) :: rest)) : rs_X G nL p l e R s m args below meth c Q S pc lv (.long y :: .long x :: rest) := by
  subst hn
  exact fun H locs ls hP hS hl => lv_lmul C.1 C.2.1 hd (k H locs ls hP hS hl)
theorem rs_idiv (C : rs_C G cc nL own p s m args c) {x y : Int32} (hd : decode cc pc = .ok (.idiv, 1)) (hz : ¬ y = 0) (hn : pc + 1 = pd) (k : rs_X G nL p l e R s m args below meth c Q S pd lv (.int (x / y) :: rest)) : rs_X G nL p l e R s m args below meth c Q S pc lv (.int y :: .int x :: rest) := by
  subst hn
  exact fun H locs ls hP hS hl => lv_idiv C.1 C.2.1 hd hz (k H locs ls hP hS hl)
theorem rs_irem (C : rs_C G cc nL own p s m args c) {x y : Int32} (hd : decode cc pc = .ok (.irem, 1)) (hz : ¬ y = 0) (hn : pc + 1 = pd) (k : rs_X G nL p l e R s m args below meth c Q S pd lv (.int (x - x / y * y) :: rest)) : rs_X G nL p l e R s m args below meth c Q S pc lv (.int y :: .int x :: rest) := by
  subst hn
  exact fun H locs ls hP hS hl => lv_irem C.1 C.2.1 hd hz (k H locs ls hP hS hl)
theorem rs_ldiv (C : rs_C G cc nL own p s m args c) {x y : Int64} (hd : decode cc pc = .ok (.ldiv, 1)) (hz : ¬ y = 0) (hn : pc + 1 = pd) (k : rs_X G nL p l e R s m args below meth c Q S pd lv (.long (x / y) :: rest)) : rs_X G nL p l e R s m args below meth c Q S pc lv (.long y :: .long x :: rest) := by
  subst hn
  exact fun H locs ls hP hS hl => lv_ldiv C.1 C.2.1 hd hz (k H locs ls hP hS hl)
theorem rs_lrem (C : rs_C G cc nL own p s m args c) {x y : Int64} (hd : decode cc pc = .ok (.lrem, 1)) (hz : ¬ y = 0) (hn : pc + 1 = pd) (k : rs_X G nL p l e R s m args below meth c Q S pd lv (.long (x - x / y * y) :: rest)) : rs_X G nL p l e R s m args below meth c Q S pc lv (.long y :: .long x :: rest) := by
  subst hn
  exact fun H locs ls hP hS hl => lv_lrem C.1 C.2.1 hd hz (k H locs ls hP hS hl)
theorem rs_ineg (C : rs_C G cc nL own p s m args c) {x : Int32} (hd : decode cc pc = .ok (.ineg, 1)) (hn : pc + 1 = pd) (k : rs_X G nL p l e R s m args below meth c Q S pd lv (.int (-x) :: rest)) : rs_X G nL p l e R s m args below meth c Q S pc lv (.int x :: rest) := by
  subst hn
  exact fun H locs ls hP hS hl => lv_ineg C.1 C.2.1 hd (k H locs ls hP hS hl)
theorem rs_ishl (C : rs_C G cc nL own p s m args c) {x y : Int32} (hd : decode cc pc = .ok (.ishl, 1)) (hn : pc + 1 = pd) (k : rs_X G nL p l e R s m args below meth c Q S pd lv (.int (x <<< (y &&& 31)) :: rest)) : rs_X G nL p l e R s m args below meth c Q S pc lv (.int y :: .int x :: rest) := by
  subst hn
  exact fun H locs ls hP hS hl => lv_ishl C.1 C.2.1 hd (k H locs ls hP hS hl)
theorem rs_ishr (C : rs_C G cc nL own p s m args c) {x y : Int32} (hd : decode cc pc = .ok (.ishr, 1)) (hn : pc + 1 = pd) (k : rs_X G nL p l e R s m args below meth c Q S pd lv (.int (x >>> (y &&& 31)) :: rest)) : rs_X G nL p l e R s m args below meth c Q S pc lv (.int y :: .int x :: rest) := by
  subst hn
  exact fun H locs ls hP hS hl => lv_ishr C.1 C.2.1 hd (k H locs ls hP hS hl)
theorem rs_iushr (C : rs_C G cc nL own p s m args c) {x y : Int32} (hd : decode cc pc = .ok (.iushr, 1)) (hn : pc + 1 = pd) (k : rs_X G nL p l e R s m args below meth c Q S pd lv (.int (x.toUInt32 >>> (y.toUInt32 &&& Int32.toUInt32 31)).toInt32 :: rest)) : rs_X G nL p l e R s m args below meth c Q S pc lv (.int y :: .int x :: rest) := by
  subst hn
  exact fun H locs ls hP hS hl => lv_iushr C.1 C.2.1 hd rfl (k H locs ls hP hS hl)
theorem rs_i2l (C : rs_C G cc nL own p s m args c) {x : Int32} (hd : decode cc pc = .ok (.i2l, 1)) (hn : pc + 1 = pd) (k : rs_X G nL p l e R s m args below meth c Q S pd lv (.long x.toInt64 :: rest)) : rs_X G nL p l e R s m args below meth c Q S pc lv (.int x :: rest) := by
  subst hn
  exact fun H locs ls hP hS hl => lv_i2l C.1 C.2.1 hd rfl (k H locs ls hP hS hl)
theorem rs_l2i (C : rs_C G cc nL own p s m args c) {x : Int64} (hd : decode cc pc = .ok (.l2i, 1)) (hn : pc + 1 = pd) (k : rs_X G nL p l e R s m args below meth c Q S pd lv (.int x.toInt32 :: rest)) : rs_X G nL p l e R s m args below meth c Q S pc lv (.long x :: rest) := by
  subst hn
  exact fun H locs ls hP hS hl => lv_l2i C.1 C.2.1 hd rfl (k H locs ls hP hS hl)
theorem rs_i2b (C : rs_C G cc nL own p s m args c) {x : Int32} (hd : decode cc pc = .ok (.i2b, 1)) (hn : pc + 1 = pd) (k : rs_X G nL p l e R s m args below meth c Q S pd lv (.int x.toInt8.toInt32 :: rest)) : rs_X G nL p l e R s m args below meth c Q S pc lv (.int x :: rest) := by
  subst hn
  exact fun H locs ls hP hS hl => lv_i2b C.1 C.2.1 hd rfl (k H locs ls hP hS hl)
theorem rs_i2s (C : rs_C G cc nL own p s m args c) {x : Int32} (hd : decode cc pc = .ok (.i2s, 1)) (hn : pc + 1 = pd) (k : rs_X G nL p l e R s m args below meth c Q S pd lv (.int x.toInt16.toInt32 :: rest)) : rs_X G nL p l e R s m args below meth c Q S pc lv (.int x :: rest) := by
  subst hn
  exact fun H locs ls hP hS hl => lv_i2s C.1 C.2.1 hd rfl (k H locs ls hP hS hl)
theorem rs_i2c (C : rs_C G cc nL own p s m args c) {x : Int32} (hd : decode cc pc = .ok (.i2c, 1)) (hn : pc + 1 = pd) (k : rs_X G nL p l e R s m args below meth c Q S pd lv (.int (x.toUInt32 % 65536).toInt32 :: rest)) : rs_X G nL p l e R s m args below meth c Q S pc lv (.int x :: rest) := by
  subst hn
  exact fun H locs ls hP hS hl => lv_i2c C.1 C.2.1 hd rfl (k H locs ls hP hS hl)
theorem rs_lcmp (C : rs_C G cc nL own p s m args c) {x y : Int64} (hd : decode cc pc = .ok (.lcmp, 1)) (hn : pc + 1 = pd) (k : rs_X G nL p l e R s m args below meth c Q S pd lv (.int (lg_cmp x y) :: rest)) : rs_X G nL p l e R s m args below meth c Q S pc lv (.long y :: .long x :: rest) := by
  subst hn
  exact fun H locs ls hP hS hl => W.lcmp C.1 C.2.1 hd (k H locs ls hP hS hl)
theorem rs_dup (C : rs_C G cc nL own p s m args c) {va : Value} (hd : decode cc pc = .ok (.dup, 1)) (hv : va.category = 1) (hn : pc + 1 = pd) (k : rs_X G nL p l e R s m args below meth c Q S pd lv (va :: va :: rest)) : rs_X G nL p l e R s m args below meth c Q S pc lv (va :: rest) := by
  subst hn
  exact fun H locs ls hP hS hl => lv_dup C.1 C.2.1 hd hv (k H locs ls hP hS hl)
theorem rs_dup2 (C : rs_C G cc nL own p s m args c) {va vb : Value} (hd : decode cc pc = .ok (.dup2, 1)) (hv : va.category = 1) (hu : vb.category = 1) (hn : pc + 1 = pd) (k : rs_X G nL p l e R s m args below meth c Q S pd lv (va :: vb :: va :: vb :: rest)) : rs_X G nL p l e R s m args below meth c Q S pc lv (va :: vb :: rest) := by
  subst hn
  exact fun H locs ls hP hS hl => lv_dup2_11 C.1 C.2.1 hd hv hu (k H locs ls hP hS hl)
theorem rs_pop (C : rs_C G cc nL own p s m args c) {va : Value} (hd : decode cc pc = .ok (.pop, 1)) (hv : va.category = 1) (hn : pc + 1 = pd) (k : rs_X G nL p l e R s m args below meth c Q S pd lv (rest)) : rs_X G nL p l e R s m args below meth c Q S pc lv (va :: rest) := by
  subst hn
  exact fun H locs ls hP hS hl => lv_pop C.1 C.2.1 hd hv (k H locs ls hP hS hl)
theorem rs_if_eq (C : rs_C G cc nL own p s m args c) {x : Int32} {off : Int} {tgt : Nat} (hd : decode cc pc = .ok (.ifCond .eq off, 3)) (ht : (pc : Int) + off = (tgt : Int)) (hn : pc + 3 = pd) (kt : x = 0 → rs_X G nL p l e R s m args below meth c Q S tgt lv rest) (kf : ¬ x = 0 → rs_X G nL p l e R s m args below meth c Q S pd lv rest) : rs_X G nL p l e R s m args below meth c Q S pc lv (.int x :: rest) := by
  subst hn
  exact fun H locs ls hP hS hl => lv_if_eq C.1 C.2.1 hd ht (fun z => kt z H locs ls hP hS hl) (fun z => kf z H locs ls hP hS hl)
theorem rs_if_ne (C : rs_C G cc nL own p s m args c) {x : Int32} {off : Int} {tgt : Nat} (hd : decode cc pc = .ok (.ifCond .ne off, 3)) (ht : (pc : Int) + off = (tgt : Int)) (hn : pc + 3 = pd) (kt : ¬ x = 0 → rs_X G nL p l e R s m args below meth c Q S tgt lv rest) (kf : x = 0 → rs_X G nL p l e R s m args below meth c Q S pd lv rest) : rs_X G nL p l e R s m args below meth c Q S pc lv (.int x :: rest) := by
  subst hn
  exact fun H locs ls hP hS hl => lv_if_ne C.1 C.2.1 hd ht (fun z => kt z H locs ls hP hS hl) (fun z => kf z H locs ls hP hS hl)
theorem rs_if_lt (C : rs_C G cc nL own p s m args c) {x : Int32} {off : Int} {tgt : Nat} (hd : decode cc pc = .ok (.ifCond .lt off, 3)) (ht : (pc : Int) + off = (tgt : Int)) (hn : pc + 3 = pd) (kt : x < 0 → rs_X G nL p l e R s m args below meth c Q S tgt lv rest) (kf : ¬ x < 0 → rs_X G nL p l e R s m args below meth c Q S pd lv rest) : rs_X G nL p l e R s m args below meth c Q S pc lv (.int x :: rest) := by
  subst hn
  exact fun H locs ls hP hS hl => lv_if_lt C.1 C.2.1 hd ht (fun z => kt z H locs ls hP hS hl) (fun z => kf z H locs ls hP hS hl)
theorem rs_if_ge (C : rs_C G cc nL own p s m args c) {x : Int32} {off : Int} {tgt : Nat} (hd : decode cc pc = .ok (.ifCond .ge off, 3)) (ht : (pc : Int) + off = (tgt : Int)) (hn : pc + 3 = pd) (kt : 0 ≤ x → rs_X G nL p l e R s m args below meth c Q S tgt lv rest) (kf : ¬ 0 ≤ x → rs_X G nL p l e R s m args below meth c Q S pd lv rest) : rs_X G nL p l e R s m args below meth c Q S pc lv (.int x :: rest) := by
  subst hn
  exact fun H locs ls hP hS hl => lv_if_ge C.1 C.2.1 hd ht (fun z => kt z H locs ls hP hS hl) (fun z => kf z H locs ls hP hS hl)
theorem rs_if_gt (C : rs_C G cc nL own p s m args c) {x : Int32} {off : Int} {tgt : Nat} (hd : decode cc pc = .ok (.ifCond .gt off, 3)) (ht : (pc : Int) + off = (tgt : Int)) (hn : pc + 3 = pd) (kt : 0 < x → rs_X G nL p l e R s m args below meth c Q S tgt lv rest) (kf : ¬ 0 < x → rs_X G nL p l e R s m args below meth c Q S pd lv rest) : rs_X G nL p l e R s m args below meth c Q S pc lv (.int x :: rest) := by
  subst hn
  exact fun H locs ls hP hS hl => lv_if_gt C.1 C.2.1 hd ht (fun z => kt z H locs ls hP hS hl) (fun z => kf z H locs ls hP hS hl)
theorem rs_if_le (C : rs_C G cc nL own p s m args c) {x : Int32} {off : Int} {tgt : Nat} (hd : decode cc pc = .ok (.ifCond .le off, 3)) (ht : (pc : Int) + off = (tgt : Int)) (hn : pc + 3 = pd) (kt : x ≤ 0 → rs_X G nL p l e R s m args below meth c Q S tgt lv rest) (kf : ¬ x ≤ 0 → rs_X G nL p l e R s m args below meth c Q S pd lv rest) : rs_X G nL p l e R s m args below meth c Q S pc lv (.int x :: rest) := by
  subst hn
  exact fun H locs ls hP hS hl => lv_if_le C.1 C.2.1 hd ht (fun z => kt z H locs ls hP hS hl) (fun z => kf z H locs ls hP hS hl)
theorem rs_icmp_eq (C : rs_C G cc nL own p s m args c) {x y : Int32} {off : Int} {tgt : Nat} (hd : decode cc pc = .ok (.if_icmp .eq off, 3)) (ht : (pc : Int) + off = (tgt : Int)) (hn : pc + 3 = pd) (kt : x = y → rs_X G nL p l e R s m args below meth c Q S tgt lv rest) (kf : ¬ x = y → rs_X G nL p l e R s m args below meth c Q S pd lv rest) : rs_X G nL p l e R s m args below meth c Q S pc lv (.int y :: .int x :: rest) := by
  subst hn
  exact fun H locs ls hP hS hl => lv_icmp_eq C.1 C.2.1 hd ht (fun z => kt z H locs ls hP hS hl) (fun z => kf z H locs ls hP hS hl)
theorem rs_icmp_ne (C : rs_C G cc nL own p s m args c) {x y : Int32} {off : Int} {tgt : Nat} (hd : decode cc pc = .ok (.if_icmp .ne off, 3)) (ht : (pc : Int) + off = (tgt : Int)) (hn : pc + 3 = pd) (kt : ¬ x = y → rs_X G nL p l e R s m args below meth c Q S tgt lv rest) (kf : x = y → rs_X G nL p l e R s m args below meth c Q S pd lv rest) : rs_X G nL p l e R s m args below meth c Q S pc lv (.int y :: .int x :: rest) := by
  subst hn
  exact fun H locs ls hP hS hl => lv_icmp_ne C.1 C.2.1 hd ht (fun z => kt z H locs ls hP hS hl) (fun z => kf z H locs ls hP hS hl)
theorem rs_icmp_lt (C : rs_C G cc nL own p s m args c) {x y : Int32} {off : Int} {tgt : Nat} (hd : decode cc pc = .ok (.if_icmp .lt off, 3)) (ht : (pc : Int) + off = (tgt : Int)) (hn : pc + 3 = pd) (kt : x < y → rs_X G nL p l e R s m args below meth c Q S tgt lv rest) (kf : ¬ x < y → rs_X G nL p l e R s m args below meth c Q S pd lv rest) : rs_X G nL p l e R s m args below meth c Q S pc lv (.int y :: .int x :: rest) := by
  subst hn
  exact fun H locs ls hP hS hl => lv_icmp_lt C.1 C.2.1 hd ht (fun z => kt z H locs ls hP hS hl) (fun z => kf z H locs ls hP hS hl)
theorem rs_icmp_ge (C : rs_C G cc nL own p s m args c) {x y : Int32} {off : Int} {tgt : Nat} (hd : decode cc pc = .ok (.if_icmp .ge off, 3)) (ht : (pc : Int) + off = (tgt : Int)) (hn : pc + 3 = pd) (kt : y ≤ x → rs_X G nL p l e R s m args below meth c Q S tgt lv rest) (kf : ¬ y ≤ x → rs_X G nL p l e R s m args below meth c Q S pd lv rest) : rs_X G nL p l e R s m args below meth c Q S pc lv (.int y :: .int x :: rest) := by
  subst hn
  exact fun H locs ls hP hS hl => lv_icmp_ge C.1 C.2.1 hd ht (fun z => kt z H locs ls hP hS hl) (fun z => kf z H locs ls hP hS hl)
theorem rs_icmp_gt (C : rs_C G cc nL own p s m args c) {x y : Int32} {off : Int} {tgt : Nat} (hd : decode cc pc = .ok (.if_icmp .gt off, 3)) (ht : (pc : Int) + off = (tgt : Int)) (hn : pc + 3 = pd) (kt : y < x → rs_X G nL p l e R s m args below meth c Q S tgt lv rest) (kf : ¬ y < x → rs_X G nL p l e R s m args below meth c Q S pd lv rest) : rs_X G nL p l e R s m args below meth c Q S pc lv (.int y :: .int x :: rest) := by
  subst hn
  exact fun H locs ls hP hS hl => lv_icmp_gt C.1 C.2.1 hd ht (fun z => kt z H locs ls hP hS hl) (fun z => kf z H locs ls hP hS hl)
theorem rs_icmp_le (C : rs_C G cc nL own p s m args c) {x y : Int32} {off : Int} {tgt : Nat} (hd : decode cc pc = .ok (.if_icmp .le off, 3)) (ht : (pc : Int) + off = (tgt : Int)) (hn : pc + 3 = pd) (kt : x ≤ y → rs_X G nL p l e R s m args below meth c Q S tgt lv rest) (kf : ¬ x ≤ y → rs_X G nL p l e R s m args below meth c Q S pd lv rest) : rs_X G nL p l e R s m args below meth c Q S pc lv (.int y :: .int x :: rest) := by
  subst hn
  exact fun H locs ls hP hS hl => lv_icmp_le C.1 C.2.1 hd ht (fun z => kt z H locs ls hP hS hl) (fun z => kf z H locs ls hP hS hl)
theorem rs_goto (C : rs_C G cc nL own p s m args c) {off : Int} {tgt : Nat} (hd : decode cc pc = .ok (.goto off, 3)) (ht : (pc : Int) + off = (tgt : Int)) (k : rs_X G nL p l e R s m args below meth c Q S tgt lv rest) : rs_X G nL p l e R s m args below meth c Q S pc lv rest := fun H locs ls hP hS hl => lv_goto C.1 C.2.1 hd ht (k H locs ls hP hS hl)
theorem rs_ifnull_r (C : rs_C G cc nL own p s m args c) {x : Nat} {off : Int} (hd : decode cc pc = .ok (.ifnull off, 3)) (hn : pc + 3 = pd) (k : rs_X G nL p l e R s m args below meth c Q S pd lv rest) : rs_X G nL p l e R s m args below meth c Q S pc lv (.ref x :: rest) := by
  subst hn
  exact fun H locs ls hP hS hl => lv_ifnull C.1 C.2.1 hd (k H locs ls hP hS hl)
theorem rs_ifnull_n (C : rs_C G cc nL own p s m args c) {off : Int} {tgt : Nat} (hd : decode cc pc = .ok (.ifnull off, 3)) (ht : (pc : Int) + off = (tgt : Int)) (k : rs_X G nL p l e R s m args below meth c Q S tgt lv rest) : rs_X G nL p l e R s m args below meth c Q S pc lv (.null :: rest) := fun H locs ls hP hS hl => lv_ifnullN C.1 C.2.1 hd ht (k H locs ls hP hS hl)
theorem rs_ifnonnull_r (C : rs_C G cc nL own p s m args c) {x : Nat} {off : Int} {tgt : Nat} (hd : decode cc pc = .ok (.ifnonnull off, 3)) (ht : (pc : Int) + off = (tgt : Int)) (k : rs_X G nL p l e R s m args below meth c Q S tgt lv rest) : rs_X G nL p l e R s m args below meth c Q S pc lv (.ref x :: rest) := fun H locs ls hP hS hl => lv_ifnonnull C.1 C.2.1 hd ht (k H locs ls hP hS hl)
theorem rs_ifnonnull_n (C : rs_C G cc nL own p s m args c) {off : Int} (hd : decode cc pc = .ok (.ifnonnull off, 3)) (hn : pc + 3 = pd) (k : rs_X G nL p l e R s m args below meth c Q S pd lv rest) : rs_X G nL p l e R s m args below meth c Q S pc lv (.null :: rest) := by
  subst hn
  exact fun H locs ls hP hS hl => lv_ifnonnullN C.1 C.2.1 hd (k H locs ls hP hS hl)
theorem rs_tabIn (C : rs_C G cc nL own p s m args c) {dflt lo hi : Int} {offs : Array Int} {len : Nat} {x : Int32} (off : Int) {tgt : Nat} (hd : decode cc pc = .ok (.tableswitch dflt lo hi offs, len)) (v : Int32) (hx : x = v) (h1 : ¬ v.toInt < lo) (h2 : ¬ hi < v.toInt) (ho : offs[(v.toInt - lo).toNat]? = some off) (ht : (pc : Int) + off = (tgt : Int)) (k : rs_X G nL p l e R s m args below meth c Q S tgt lv rest) : rs_X G nL p l e R s m args below meth c Q S pc lv (.int x :: rest) := by
  subst hx
  exact fun H locs ls hP hS hl => lv_tableIn C.1 C.2.1 hd h1 h2 ho ht (k H locs ls hP hS hl)
theorem rs_tabOut (C : rs_C G cc nL own p s m args c) {dflt lo hi : Int} {offs : Array Int} {len : Nat} {x : Int32} {tgt : Nat} (hd : decode cc pc = .ok (.tableswitch dflt lo hi offs, len)) (h : x.toInt < lo ∨ hi < x.toInt) (ht : (pc : Int) + dflt = (tgt : Int)) (k : rs_X G nL p l e R s m args below meth c Q S tgt lv rest) : rs_X G nL p l e R s m args below meth c Q S pc lv (.int x :: rest) := fun H locs ls hP hS hl => lv_tableOut C.1 C.2.1 hd h ht (k H locs ls hP hS hl)
theorem rs_look (C : rs_C G cc nL own p s m args c) {dflt : Int} {ps : Array (Int × Int)} {len : Nat} {x : Int32} (off : Int) {tgt : Nat} (hd : decode cc pc = .ok (.lookupswitch dflt ps, len)) (hp : (ps.toList.zip (ps.toList.drop 1)).all (fun (a, next) => a.1 < next.1) = true) (ho : Op.lookupswitch.offset ps.toList dflt x.toInt = off) (ht : (pc : Int) + off = (tgt : Int)) (k : rs_X G nL p l e R s m args below meth c Q S tgt lv rest) : rs_X G nL p l e R s m args below meth c Q S pc lv (.int x :: rest) := fun H locs ls hP hS hl => lv_lookup C.1 C.2.1 hd hp ho ht (k H locs ls hP hS hl)
theorem rs_sub {l2 : List (Nat × Value)} (h : rs_all lv l2) (k : rs_X G nL p l e R s m args below meth c Q S pc l2 st) : rs_X G nL p l e R s m args below meth c Q S pc lv st := fun H locs ls hP hS hl => k H locs ls hP hS (rs_all_has hl h)
theorem rs_get (C : rs_C G cc nL own p s m args c) {ref Cn : String} {T : u_T} {N ci index k : Nat} {fs : List Value} (hk : k < 106) (he : rs_ee G S k = .inr (ci, fs)) (hc : rs_cl[ci]? = some (Cn, T, N)) (hin : ∀ w ∈ u_ws Cn T N, w ∈ rs_wg) (j : Nat) (hj : j < N) (hl0 : Cond.fieldLink own index ref (T j).2.1 (T j).2.2.1 ∈ rs_wg) (hs : (T j).1 = ref) {v : Value} (hv : fs[j]? = some v) (hd : decode cc pc = .ok (.getfield index, 3)) (hn : pc + 3 = pd) (k2 : rs_X G nL p l e R s m args below meth c Q S pd lv (v :: rest)) : rs_X G nL p l e R s m args below meth c Q S pc lv (.ref (rs_ad G k) :: rest) := by
  subst hn
  exact fun H locs ls hP hS hl => va_get C.1 C.2.1 C.2.2.2.2.1 hin C.2.2.2.1 C.2.2.2.2.2.1.1 hP k (by rw [rs_ww_get G S hk, he]) hc j hj (C.2.2.2.2.1 _ hl0) (fun x hx => by rw [← hs]; exact hx) hv hd (k2 H locs ls hP hS hl)
theorem rs_put (C : rs_C G cc nL own p s m args c) {ref Cn : String} {T : u_T} {N ci index k : Nat} {fs : List Value} {S2 : rs_St} (hk : k < 106) (he : rs_ee G S k = .inr (ci, fs)) (hc : rs_cl[ci]? = some (Cn, T, N)) (hin : ∀ w ∈ u_ws Cn T N, w ∈ rs_wg) (ty0 : Nat → FieldType) (hty : ∀ k, k < N → parseFieldDescriptor (T k).2.2.1 = some (ty0 k)) (hnm : ∀ a, a < N → ∀ b, b < N → a ≠ b → (T a).2.1 ≠ (T b).2.1) (j : Nat) (hj : j < N) (hl0 : Cond.fieldLink own index ref (T j).2.1 (T j).2.2.1 ∈ rs_wg) (hs : (T j).1 = ref) (hfin : (T j).2.2.2 = false) {ty : FieldType} {v : Value} (hds : parseFieldDescriptor (T j).2.2.1 = some ty) (hnw : narrow ty v = v) (hfit : fits ty v = true) (hlen : j < fs.length) (he2 : rs_ee G S2 k = .inr (ci, fs.set j v)) (ho : ∀ a, a ≠ k → rs_ee G S2 a = rs_ee G S a) (hd : decode cc pc = .ok (.putfield index, 3)) (hn : pc + 3 = pd) (k2 : rs_X G nL p l e R s m args below meth c Q S2 pd lv rest) : rs_X G nL p l e R s m args below meth c Q S pc lv (v :: .ref (rs_ad G k) :: rest) := by
  subst hn
  intro H locs ls hP hS hl
  refine va_put C.1 C.2.1 C.2.2.2.2.1 hin ty0 hty hnm C.2.2.2.1 C.2.2.2.2.2.1.1 hP (rs_va_D C.2.2.2.2.2.2 S) hS k (by rw [rs_ww_get G S hk, he]) hc j hj (C.2.2.2.2.1 _ hl0) (fun x hx => by rw [← hs]; exact hx) hfin hds hnw hfit hlen hd (fun H1 locs1 hP1 _ hS1 => ?_)
  rw [rs_ww_set G S S2 hk _ he2 ho] at hP1
  exact k2 H1 locs1 ls hP1 hS1 hl
theorem rs_iald (C : rs_C G cc nL own p s m args c) {k : Nat} {i : Int32} (hk : rs_kd k = 6) (hi : ¬ (i < 0 ∨ rs_ln k ≤ i.toNatClampNeg)) (hd : decode cc pc = .ok (.iaload, 1)) (hn : pc + 1 = pd) (k2 : rs_X G nL p l e R s m args below meth c Q S pd lv (.int (rs_gi S k i.toNatClampNeg) :: rest)) : rs_X G nL p l e R s m args below meth c Q S pc lv (.int i :: .ref (rs_ad G k) :: rest) := by
  subst hn
  exact fun H locs ls hP hS hl => va_iald (f := S.1 k) C.1 C.2.1 C.2.2.2.2.2.1.1 hP k 0 (by rw [rs_ww_get G S (rs_kd_lt hk (by decide)), rs_e6 hk]) rfl hi hd (k2 H locs ls hP hS hl)
theorem rs_bald (C : rs_C G cc nL own p s m args c) {k : Nat} {i : Int32} (hk : rs_kd k = 7) (hi : ¬ (i < 0 ∨ rs_ln k ≤ i.toNatClampNeg)) (hd : decode cc pc = .ok (.baload, 1)) (hn : pc + 1 = pd) (k2 : rs_X G nL p l e R s m args below meth c Q S pd lv (.int (rs_gi S k i.toNatClampNeg) :: rest)) : rs_X G nL p l e R s m args below meth c Q S pc lv (.int i :: .ref (rs_ad G k) :: rest) := by
  subst hn
  exact fun H locs ls hP hS hl => va_bald (f := S.1 k) C.1 C.2.1 C.2.2.2.2.2.1.1 hP k 1 (by rw [rs_ww_get G S (rs_kd_lt hk (by decide)), rs_e7 hk]) rfl hi hd (k2 H locs ls hP hS hl)
theorem rs_zald (C : rs_C G cc nL own p s m args c) {k : Nat} {i : Int32} (hk : rs_kd k = 8) (hi : ¬ (i < 0 ∨ rs_ln k ≤ i.toNatClampNeg)) (hd : decode cc pc = .ok (.baload, 1)) (hn : pc + 1 = pd) (k2 : rs_X G nL p l e R s m args below meth c Q S pd lv (.int (rs_gi S k i.toNatClampNeg) :: rest)) : rs_X G nL p l e R s m args below meth c Q S pc lv (.int i :: .ref (rs_ad G k) :: rest) := by
  subst hn
  exact fun H locs ls hP hS hl => va_zald (f := S.1 k) C.1 C.2.1 C.2.2.2.2.2.1.1 hP k 2 (by rw [rs_ww_get G S (rs_kd_lt hk (by decide)), rs_e8 hk]) rfl hi hd (k2 H locs ls hP hS hl)
theorem rs_iast (C : rs_C G cc nL own p s m args c) {k : Nat} {i x : Int32} (hk : rs_kd k = 6) (hi : ¬ (i < 0 ∨ rs_ln k ≤ i.toNatClampNeg)) (hd : decode cc pc = .ok (.iastore, 1)) (hn : pc + 1 = pd) (k2 : rs_X G nL p l e R s m args below meth c Q (rs_si S k i.toNatClampNeg x) pd lv rest) : rs_X G nL p l e R s m args below meth c Q S pc lv (.int x :: .int i :: .ref (rs_ad G k) :: rest) := by
  subst hn
  intro H locs ls hP hS hl
  refine va_iast C.1 C.2.1 C.2.2.2.2.2.1.1 hP (rs_va_D C.2.2.2.2.2.2 S) hS k 0 (by rw [rs_ww_get G S (rs_kd_lt hk (by decide)), rs_e6 hk]) rfl hi hd (fun H1 locs1 hP1 _ hS1 => ?_)
  rw [rs_ww_set G S (rs_si S k i.toNatClampNeg x) (rs_kd_lt hk (by decide)) _ (by rw [rs_e6 hk, rs_si_arr]) (fun a ha => rs_ee_si a ha)] at hP1
  exact k2 H1 locs1 ls hP1 hS1 hl
theorem rs_bast (C : rs_C G cc nL own p s m args c) {k : Nat} {i x : Int32} (hk : rs_kd k = 7) (hi : ¬ (i < 0 ∨ rs_ln k ≤ i.toNatClampNeg)) (hd : decode cc pc = .ok (.bastore, 1)) (hn : pc + 1 = pd) (k2 : rs_X G nL p l e R s m args below meth c Q (rs_si S k i.toNatClampNeg (vp_nar .byte x)) pd lv rest) : rs_X G nL p l e R s m args below meth c Q S pc lv (.int x :: .int i :: .ref (rs_ad G k) :: rest) := by
  subst hn
  intro H locs ls hP hS hl
  refine va_bast C.1 C.2.1 C.2.2.2.2.2.1.1 hP (rs_va_D C.2.2.2.2.2.2 S) hS k 1 (by rw [rs_ww_get G S (rs_kd_lt hk (by decide)), rs_e7 hk]) rfl hi hd (fun H1 locs1 hP1 _ hS1 => ?_)
  rw [rs_ww_set G S (rs_si S k i.toNatClampNeg (vp_nar .byte x)) (rs_kd_lt hk (by decide)) _ (by rw [rs_e7 hk, rs_si_arr]) (fun a ha => rs_ee_si a ha)] at hP1
  exact k2 H1 locs1 ls hP1 hS1 hl
theorem rs_zast (C : rs_C G cc nL own p s m args c) {k : Nat} {i x : Int32} (hk : rs_kd k = 8) (hi : ¬ (i < 0 ∨ rs_ln k ≤ i.toNatClampNeg)) (hd : decode cc pc = .ok (.bastore, 1)) (hn : pc + 1 = pd) (k2 : rs_X G nL p l e R s m args below meth c Q (rs_si S k i.toNatClampNeg (vp_nar .boolean x)) pd lv rest) : rs_X G nL p l e R s m args below meth c Q S pc lv (.int x :: .int i :: .ref (rs_ad G k) :: rest) := by
  subst hn
  intro H locs ls hP hS hl
  refine va_zast C.1 C.2.1 C.2.2.2.2.2.1.1 hP (rs_va_D C.2.2.2.2.2.2 S) hS k 2 (by rw [rs_ww_get G S (rs_kd_lt hk (by decide)), rs_e8 hk]) rfl hi hd (fun H1 locs1 hP1 _ hS1 => ?_)
  rw [rs_ww_set G S (rs_si S k i.toNatClampNeg (vp_nar .boolean x)) (rs_kd_lt hk (by decide)) _ (by rw [rs_e8 hk, rs_si_arr]) (fun a ha => rs_ee_si a ha)] at hP1
  exact k2 H1 locs1 ls hP1 hS1 hl
theorem rs_alen (C : rs_C G cc nL own p s m args c) {k : Nat} (hk : rs_kd k = 6) (hd : decode cc pc = .ok (.arraylength, 1)) (hn : pc + 1 = pd) (k2 : rs_X G nL p l e R s m args below meth c Q S pd lv (.int (Int32.ofNat (rs_ln k)) :: rest)) : rs_X G nL p l e R s m args below meth c Q S pc lv (.ref (rs_ad G k) :: rest) := by
  subst hn
  exact fun H locs ls hP hS hl => va_alen C.1 C.2.1 C.2.2.2.2.2.1.1 hP k 0 (by rw [rs_ww_get G S (rs_kd_lt hk (by decide)), rs_e6 hk]) rfl rfl hd (k2 H locs ls hP hS hl)
theorem rs_aald9 (C : rs_C G cc nL own p s m args c) {k : Nat} {i : Int32} (hk : rs_kd k = 9) (hi : ¬ (i < 0 ∨ 4 ≤ i.toNatClampNeg)) (hd : decode cc pc = .ok (.aaload, 1)) (hn : pc + 1 = pd) (k2 : rs_X G nL p l e R s m args below meth c Q S pd lv (.ref (rs_ad G (k + 6 + 3 * i.toNatClampNeg)) :: rest)) : rs_X G nL p l e R s m args below meth c Q S pc lv (.int i :: .ref (rs_ad G k) :: rest) := by
  subst hn
  exact fun H locs ls hP hS hl => va_aldq (f := fun j => some (rs_ad G (k + 6 + 3 * j))) C.1 C.2.1 C.2.2.2.2.2.1.1 hP k 3 (by rw [rs_ww_get G S (rs_kd_lt hk (by decide)), rs_e9 hk]) rfl hi hd (k2 H locs ls hP hS hl)
theorem rs_aald10 (C : rs_C G cc nL own p s m args c) {k : Nat} {i : Int32} (hk : rs_kd k = 10) (hi : ¬ (i < 0 ∨ 2 ≤ i.toNatClampNeg)) (hd : decode cc pc = .ok (.aaload, 1)) (hn : pc + 1 = pd) (k2 : rs_X G nL p l e R s m args below meth c Q S pd lv (.ref (rs_ad G (38 + 19 * i.toNatClampNeg)) :: rest)) : rs_X G nL p l e R s m args below meth c Q S pc lv (.int i :: .ref (rs_ad G k) :: rest) := by
  subst hn
  exact fun H locs ls hP hS hl => va_aldq (f := fun j => some (rs_ad G (38 + 19 * j))) C.1 C.2.1 C.2.2.2.2.2.1.1 hP k 4 (by rw [rs_ww_get G S (rs_kd_lt hk (by decide)), rs_e10 hk]) rfl hi hd (k2 H locs ls hP hS hl)
theorem rs_aald11 (C : rs_C G cc nL own p s m args c) {k : Nat} {i : Int32} (hk : rs_kd k = 11) (hi : ¬ (i < 0 ∨ 4 ≤ i.toNatClampNeg)) (hd : decode cc pc = .ok (.aaload, 1)) (hn : pc + 1 = pd) (k2 : rs_X G nL p l e R s m args below meth c Q S pd lv (.ref (rs_ad G (83 + 2 * i.toNatClampNeg)) :: rest)) : rs_X G nL p l e R s m args below meth c Q S pc lv (.int i :: .ref (rs_ad G k) :: rest) := by
  subst hn
  exact fun H locs ls hP hS hl => va_aldq (f := fun j => some (rs_ad G (83 + 2 * j))) C.1 C.2.1 C.2.2.2.2.2.1.1 hP k 5 (by rw [rs_ww_get G S (rs_kd_lt hk (by decide)), rs_e11 hk]) rfl hi hd (k2 H locs ls hP hS hl)
theorem rs_gets (C : rs_C G cc nL own p s m args c) {index : Nat} (i : Nat) (hi : i < 5) (hl0 : Cond.fieldLink own index RX4 (rs_sn i) "[I" ∈ rs_wg) (hd : decode cc pc = .ok (.getstatic index, 3)) (hn : pc + 3 = pd) (k2 : rs_X G nL p l e R s m args below meth c Q S pd lv (.ref (rs_tb G i) :: rest)) : rs_X G nL p l e R s m args below meth c Q S pc lv rest := by
  subst hn
  exact fun H locs ls hP hS hl => va_gets C.1 C.2.1 (C.2.2.2.2.2.1.2.2.2.2.1 i hi).1 hS C.2.2.2.1 (C.2.2.2.2.1 _ hl0) (fun x hx => hx) hd (k2 H locs ls hP hS hl)
theorem rs_getsN (C : rs_C G cc nL own p s m args c) {index : Nat} (i : Nat) (hi : i < 5) (hl0 : (own, index, rs_sn i) ∈ rs_nf) (hd : decode cc pc = .ok (.getstatic index, 3)) (hn : pc + 3 = pd) (k2 : rs_X G nL p l e R s m args below meth c Q S pd lv (.ref (rs_tb G i) :: rest)) : rs_X G nL p l e R s m args below meth c Q S pc lv rest := by
  subst hn
  exact fun H locs ls hP hS hl => va_getsN C.1 C.2.1 (C.2.2.2.2.2.1.2.2.2.2.1 i hi).1 hS C.2.2.2.1 (va_Nw.use rfl (C.2.2.2.2.2.1.2.2.1 _ hl0)) (fun x hx => hx) hd (k2 H locs ls hP hS hl)
theorem rs_sald (C : rs_C G cc nL own p s m args c) {i : Int32} (q : Nat) (hq : q < 5) (hi : ¬ (i < 0 ∨ 4 ≤ i.toNatClampNeg)) (hd : decode cc pc = .ok (.iaload, 1)) (hn : pc + 1 = pd) (k2 : rs_X G nL p l e R s m args below meth c Q S pd lv (.int (rs_sv q i.toNatClampNeg) :: rest)) : rs_X G nL p l e R s m args below meth c Q S pc lv (.int i :: .ref (rs_tb G q) :: rest) := by
  subst hn
  have h5 := C.2.2.2.2.2.1.2.2.2.2.1 q hq
  exact fun H locs ls hP hS hl => va_sld C.1 C.2.1 h5.2.1 (Nat.lt_of_lt_of_le h5.2.2 C.2.2.2.2.2.1.2.1) (Nat.not_le.mpr h5.2.2) hS hi hd (k2 H locs ls hP hS hl)
theorem rs_mmax (C : rs_C G cc nL own p s m args c) {index : Nat} {x y : Int32} (hl0 : Cond.methodLink own index Lib.Math.max.name ∈ rs_wg) (hst : Cond.static Lib.Math.max.name ∈ rs_wg) (hin : Cond.initialized "java/lang/Math" ∈ rs_wg) (hco : Cond.code Lib.Math.max.name Lib.Math.max.code 2 (some .int) ∈ rs_wg) (hfr : 1 ≤ R.frames) (hlo : (rest.map fun v => v.category).sum + 13 ≤ R.locals) (hd : decode cc pc = .ok (.invokestatic index, 3)) (hn : pc + 3 = pd) (k2 : rs_X G nL p l e R s m args below meth c Q S pd lv (.int (if x < y then y else x) :: rest)) : rs_X G nL p l e R s m args below meth c Q S pc lv (.int y :: .int x :: rest) := by
  subst hn
  exact fun H locs ls hP hS hl => va_mmax C.1 C.2.1 (C.2.2.1.trans hl.1.symm) C.2.2.2.1 (C.2.2.2.2.1 _ hl0) (C.2.2.2.2.1 _ hst) (C.2.2.2.2.1 _ hin) (C.2.2.2.2.1 _ hco) hfr hlo (Nat.zero_le _) (Nat.zero_le _) hd (k2 H locs ls hP hS hl)
theorem rs_mmin (C : rs_C G cc nL own p s m args c) {index : Nat} {x y : Int32} (hl0 : Cond.methodLink own index Lib.Math.min.name ∈ rs_wg) (hst : Cond.static Lib.Math.min.name ∈ rs_wg) (hin : Cond.initialized "java/lang/Math" ∈ rs_wg) (hco : Cond.code Lib.Math.min.name Lib.Math.min.code 2 (some .int) ∈ rs_wg) (hfr : 1 ≤ R.frames) (hlo : (rest.map fun v => v.category).sum + 13 ≤ R.locals) (hd : decode cc pc = .ok (.invokestatic index, 3)) (hn : pc + 3 = pd) (k2 : rs_X G nL p l e R s m args below meth c Q S pd lv (.int (if y < x then y else x) :: rest)) : rs_X G nL p l e R s m args below meth c Q S pc lv (.int y :: .int x :: rest) := by
  subst hn
  exact fun H locs ls hP hS hl => va_mmin C.1 C.2.1 (C.2.2.1.trans hl.1.symm) C.2.2.2.1 (C.2.2.2.2.1 _ hl0) (C.2.2.2.2.1 _ hst) (C.2.2.2.2.1 _ hin) (C.2.2.2.2.1 _ hco) hfr hlo (Nat.zero_le _) (Nat.zero_le _) hd (k2 H locs ls hP hS hl)
theorem rs_copy (C : rs_C G cc nL own p s m args c) {index : Nat} (hl0 : Cond.methodLink own index arraycopyName ∈ rs_wg) (hnat : Cond.native arraycopyName ∈ rs_wg) (hst : Cond.static arraycopyName ∈ rs_wg) (hin : Cond.initialized "java/lang/System" ∈ rs_wg) {a b : Nat} {sp dp n : Int32} (ha : rs_kd a = 6) (hb : rs_kd b = 6) (hz : ¬ (sp < 0 ∨ dp < 0 ∨ n < 0 ∨ rs_ln a < sp.toNatClampNeg + n.toNatClampNeg ∨ rs_ln b < dp.toNatClampNeg + n.toNatClampNeg)) (hfr : 1 ≤ R.frames) (hlo : (rest.map fun v => v.category).sum + (nativeFrameWords "java/lang/System" "arraycopy" 5 + 11) ≤ R.locals) (hd : decode cc pc = .ok (.invokestatic index, 3)) (hn : pc + 3 = pd) (k2 : rs_X G nL p l e R s m args below meth c Q (rs_sa S b (va_cpy (S.1 a) (S.1 b) sp.toNatClampNeg dp.toNatClampNeg n.toNatClampNeg)) pd lv rest) : rs_X G nL p l e R s m args below meth c Q S pc lv (.int n :: .int dp :: .ref (rs_ad G b) :: .int sp :: .ref (rs_ad G a) :: rest) := by
  subst hn
  intro H locs ls hP hS hl
  refine va_copyi C.1 C.2.1 (C.2.2.1.trans hl.1.symm) C.2.2.2.1 (C.2.2.2.2.1 _ hl0) (C.2.2.2.2.1 _ hnat) (C.2.2.2.2.1 _ hst) (C.2.2.2.2.1 _ hin) C.2.2.2.2.2.1.1 hP (rs_va_D C.2.2.2.2.2.2 S) hS a b 0 0 (by rw [rs_ww_get G S (rs_kd_lt ha (by decide)), rs_e6 ha]) (by rw [rs_ww_get G S (rs_kd_lt hb (by decide)), rs_e6 hb]) rfl rfl rfl (fun z => hz (Or.inl z)) (fun z => hz (Or.inr (Or.inl z))) (fun z => hz (Or.inr (Or.inr (Or.inl z)))) (Nat.not_lt.mp fun z => hz (Or.inr (Or.inr (Or.inr (Or.inl z))))) (Nat.not_lt.mp fun z => hz (Or.inr (Or.inr (Or.inr (Or.inr z))))) (fun _ _ => rfl) hfr hlo hd (fun H1 locs1 hP1 _ hS1 => ?_)
  rw [rs_ww_set G S (rs_sa S b (va_cpy (S.1 a) (S.1 b) sp.toNatClampNeg dp.toNatClampNeg n.toNatClampNeg)) (rs_kd_lt hb (by decide)) _ (by rw [rs_e6 hb, rs_sa_arr]) (fun a ha => rs_ee_sa a ha)] at hP1
  exact k2 H1 locs1 ls hP1 hS1 hl
theorem rs_copyT (C : rs_C G cc nL own p s m args c) {index : Nat} (hl0 : Cond.methodLink own index arraycopyName ∈ rs_wg) (hnat : Cond.native arraycopyName ∈ rs_wg) (hst : Cond.static arraycopyName ∈ rs_wg) (hin : Cond.initialized "java/lang/System" ∈ rs_wg) {q b : Nat} {sp dp n : Int32} (hq : q < 5) (hb : rs_kd b = 6) (hz : ¬ (sp < 0 ∨ dp < 0 ∨ n < 0 ∨ 4 < sp.toNatClampNeg + n.toNatClampNeg ∨ rs_ln b < dp.toNatClampNeg + n.toNatClampNeg)) (hfr : 1 ≤ R.frames) (hlo : (rest.map fun v => v.category).sum + (nativeFrameWords "java/lang/System" "arraycopy" 5 + 11) ≤ R.locals) (hd : decode cc pc = .ok (.invokestatic index, 3)) (hn : pc + 3 = pd) (k2 : rs_X G nL p l e R s m args below meth c Q (rs_sa S b (va_cpy (rs_sv q) (S.1 b) sp.toNatClampNeg dp.toNatClampNeg n.toNatClampNeg)) pd lv rest) : rs_X G nL p l e R s m args below meth c Q S pc lv (.int n :: .int dp :: .ref (rs_ad G b) :: .int sp :: .ref (rs_tb G q) :: rest) := by
  subst hn
  have h5 := C.2.2.2.2.2.1.2.2.2.2.1 q hq
  intro H locs ls hP hS hl
  refine va_copyx C.1 C.2.1 (C.2.2.1.trans hl.1.symm) C.2.2.2.1 (C.2.2.2.2.1 _ hl0) (C.2.2.2.2.1 _ hnat) (C.2.2.2.2.1 _ hst) (C.2.2.2.2.1 _ hin) C.2.2.2.2.2.1.1 hP (rs_va_D C.2.2.2.2.2.2 S) hS h5.2.1 (Nat.lt_of_lt_of_le h5.2.2 C.2.2.2.2.2.1.2.1) (Nat.not_le.mpr h5.2.2) b 0 (by rw [rs_ww_get G S (rs_kd_lt hb (by decide)), rs_e6 hb]) rfl (fun z => hz (Or.inl z)) (fun z => hz (Or.inr (Or.inl z))) (fun z => hz (Or.inr (Or.inr (Or.inl z)))) (Nat.not_lt.mp fun z => hz (Or.inr (Or.inr (Or.inr (Or.inl z))))) (Nat.not_lt.mp fun z => hz (Or.inr (Or.inr (Or.inr (Or.inr z))))) hfr hlo hd (fun H1 locs1 hP1 _ hS1 => ?_)
  rw [rs_ww_set G S (rs_sa S b (va_cpy (rs_sv q) (S.1 b) sp.toNatClampNeg dp.toNatClampNeg n.toNatClampNeg)) (rs_kd_lt hb (by decide)) _ (by rw [rs_e6 hb, rs_sa_arr]) (fun a ha => rs_ee_sa a ha)] at hP1
  exact k2 H1 locs1 ls hP1 hS1 hl
def rs_cwv (own : String) (index : Nat) (Cn : String) (y : MethodName) (b : ByteArray) (n : Nat) (r : Option FieldType) : Prop := Cond.methodLink own index y ∈ rs_wg ∧ Cond.instanceMethod y ∈ rs_wg ∧ Cond.selects Cn y y ∈ rs_wg ∧ Cond.initialized Cn ∈ rs_wg ∧ Cond.code y b n r ∈ rs_wg
theorem rs_good : ∀ w ∈ rs_wg, goodWord w = true := fun _ h => (List.mem_filter.mp h).2
theorem rs_goodz {y : MethodName} {b : ByteArray} {n : Nat} {r : Option FieldType} (h : Cond.code y b n r ∈ rs_wg) : GoodIn rs_wg (rs_wz y b n r) := by
  intro w hw
  rcases List.mem_cons.mp hw with e | e
  · rw [e]
    exact ⟨h, good_of_word (rs_good _ h)⟩
  · exact ⟨e, good_of_word (rs_good _ e)⟩
theorem rs_goodv {own Cn : String} {index : Nat} {y : MethodName} {b : ByteArray} {n : Nat} {r : Option FieldType} (h : rs_cwv own index Cn y b n r) : GoodIn rs_wg (wsV own index Cn y (rs_wz y b n r)) := by
  obtain ⟨h1, h2, h3, h4, h5⟩ := h
  intro w hw
  rcases List.mem_append.mp hw with q | q
  · have : w ∈ rs_wg := by
      simp only [List.mem_cons, List.not_mem_nil, or_false] at q
      rcases q with rfl | rfl | rfl | rfl
      · exact h1
      · exact h2
      · exact h3
      · exact h4
    exact ⟨this, good_of_word (rs_good _ this)⟩
  · exact rs_goodz h5 w q
def rs_cws (own : String) (index : Nat) (y : MethodName) (b : ByteArray) (n : Nat) (r : Option FieldType) : Prop := Cond.methodLink own index y ∈ rs_wg ∧ Cond.static y ∈ rs_wg ∧ Cond.initialized y.cls ∈ rs_wg ∧ Cond.code y b n r ∈ rs_wg
theorem rs_goods {own : String} {index : Nat} {y : MethodName} {b : ByteArray} {n : Nat} {r : Option FieldType} (h : rs_cws own index y b n r) : GoodIn rs_wg (va_wsS own index y (rs_wz y b n r)) := by
  obtain ⟨h1, h2, h3, h5⟩ := h
  intro w hw
  rcases List.mem_append.mp hw with q | q
  · have : w ∈ rs_wg := by
      simp only [List.mem_cons, List.not_mem_nil, or_false] at q
      rcases q with rfl | rfl | rfl
      · exact h1
      · exact h2
      · exact h3
    exact ⟨this, good_of_word (rs_good _ this)⟩
  · exact rs_goodz h5 w q
def rs_cwn (own : String) (index : Nat) (y : MethodName) (b : ByteArray) (n : Nat) (r : Option FieldType) : Prop := (own, index, y) ∈ rs_nm ∧ Cond.static y ∈ rs_wg ∧ Cond.initialized y.cls ∈ rs_wg ∧ Cond.code y b n r ∈ rs_wg
theorem rs_recv {D : va_G} {tys : List (ClassId × FieldType)} {H : Heap} {k ci : Nat} {q : vw_C} {fs : List Value} (hK : va_K D rs_cl tys s) (hP : va_P D rs_cl (rs_ww G S) H) (hk : k < 106) (he : rs_ee G S k = .inr (ci, fs)) (hc : rs_cl[ci]? = some q) : ∃ cell : Cell, H[rs_ad G k]? = some cell ∧ cell.vm.isStatics = false ∧ s.vm.findClass q.1 = some cell.cls := va_recv hK hP hc (q0 := k) (by rw [rs_ww_get G S hk, he])
theorem rs_callVi (C : rs_C G cc nL own p s m args c) {y : MethodName} {b : ByteArray} {n ar index : Nat} {r : Option FieldType} {rm : Room} {As : List Value} {o : Int32 × rs_St} {k ci N : Nat} {Cn : String} {T : u_T} {fs : List Value} (hk : k < 106) (he : rs_ee G S k = .inr (ci, fs)) (hc : rs_cl[ci]? = some (Cn, T, N)) (hM : Met l y (rs_wz y b n r) rm (va_Pc (.ref (rs_ad G k) :: As) (rs_pre G S)) (va_Qi (fun r S2 => (r, S2) = o) (rs_post G) (rs_A G)) 0 0 (rs_A G)) (wd : rs_cwv own index Cn y b n r) (hy : y.cls = Cn ∧ y.cls ≠ "java/lang/invoke/MethodHandle" ∧ y.cls ≠ "java/lang/invoke/VarHandle" ∧ (parseMethodDescriptor y.desc).map (fun d => d.parameters.length) = some ar) (hR : rm.frames + 1 ≤ R.frames ∧ 8 + (n + 11) + rm.locals ≤ R.locals) (hrm : rm.cells = 0 ∧ rm.slots = 0) (hn2 : As.length = ar) (hsk : st = As.reverse ++ .ref (rs_ad G k) :: rest) (hst : (rest.map fun v => v.category).sum ≤ 8) (hd : decode cc pc = .ok (.invokevirtual index, 3)) (hn : pc + 3 = pd) (k2 : rs_X G nL p l e R s m args below meth c Q o.2 pd lv (.int o.1 :: rest)) : rs_X G nL p l e R s m args below meth c Q S pc lv st := by
  subst hn
  subst hsk
  intro H locs ls hP hS hl
  refine va_calli (va_runV (As := As) (rest := rest) ⟨C.1, C.2.1, C.2.2.1, C.2.2.2.1, C.2.2.2.2.1⟩ hM (cwV ar C.2.2.2.2.1 (rs_goodv wd) rfl hrm.1 hrm.2 hy hR) ⟨rs_blind G S _, rs_recv C.2.2.2.2.2.1.1 hP hk he hc, fun U hU hW => ⟨rfl, by rw [hU]; exact hP, rs_kf_to C.2.2.2.2.2.1 hS hU hW⟩⟩ rfl hn2 hl.1 rfl (lv_room hst) hd ⟨Nat.zero_le _, Nat.zero_le _⟩) hS (fun q _ h => h) (fun q h => h) (fun r u t H1 locs1 ht hvm hw hB hz1 hk1 hS1 => ?_)
  have hB : va_P (rs_D0 G) rs_cl (rs_ww G u) t.heap := hB
  rw [ht] at hB
  subst hw
  exact k2 H1 locs1 ls hB hS1 hl
theorem rs_callSi (C : rs_C G cc nL own p s m args c) {y : MethodName} {b : ByteArray} {n ar index : Nat} {r : Option FieldType} {rm : Room} {As : List Value} {o : Int32 × rs_St} (hM : Met l y (rs_wz y b n r) rm (va_Pc As (rs_pre G S)) (va_Qi (fun r S2 => (r, S2) = o) (rs_post G) (rs_A G)) 0 0 (rs_A G)) (wd : rs_cws own index y b n r) (hy : y.cls ≠ "java/lang/invoke/MethodHandle" ∧ y.cls ≠ "java/lang/invoke/VarHandle" ∧ (parseMethodDescriptor y.desc).map (fun d => d.parameters.length) = some ar) (hR : rm.frames + 1 ≤ R.frames ∧ 8 + (n + 11) + rm.locals ≤ R.locals) (hrm : rm.cells = 0 ∧ rm.slots = 0) (hn2 : As.length = ar) (hsk : st = As.reverse ++ rest) (hst : (rest.map fun v => v.category).sum ≤ 8) (hd : decode cc pc = .ok (.invokestatic index, 3)) (hn : pc + 3 = pd) (k2 : rs_X G nL p l e R s m args below meth c Q o.2 pd lv (.int o.1 :: rest)) : rs_X G nL p l e R s m args below meth c Q S pc lv st := by
  subst hn
  subst hsk
  intro H locs ls hP hS hl
  refine va_calli (va_runS (As := As) (rest := rest) ⟨C.1, C.2.1, C.2.2.1, C.2.2.2.1, C.2.2.2.2.1⟩ hM (va_cwS ar C.2.2.2.2.1 (rs_goods wd) rfl hrm.1 hrm.2 hy hR) ⟨rs_blind G S _, fun U hU hW => ⟨rfl, by rw [hU]; exact hP, rs_kf_to C.2.2.2.2.2.1 hS hU hW⟩⟩ rfl hn2 hl.1 rfl (lv_room hst) hd ⟨Nat.zero_le _, Nat.zero_le _⟩) hS (fun q _ h => h) (fun q h => h) (fun r u t H1 locs1 ht hvm hw hB hz1 hk1 hS1 => ?_)
  have hB : va_P (rs_D0 G) rs_cl (rs_ww G u) t.heap := hB
  rw [ht] at hB
  subst hw
  exact k2 H1 locs1 ls hB hS1 hl
theorem rs_callNi (C : rs_C G cc nL own p s m args c) {y : MethodName} {b : ByteArray} {n ar index : Nat} {r : Option FieldType} {rm : Room} {As : List Value} {o : Int32 × rs_St} (hM : Met l y (rs_wz y b n r) rm (va_Pc As (rs_pre G S)) (va_Qi (fun r S2 => (r, S2) = o) (rs_post G) (rs_A G)) 0 0 (rs_A G)) (wd : rs_cwn own index y b n r) (hy : y.cls ≠ "java/lang/invoke/MethodHandle" ∧ y.cls ≠ "java/lang/invoke/VarHandle" ∧ (parseMethodDescriptor y.desc).map (fun d => d.parameters.length) = some ar) (hR : rm.frames + 1 ≤ R.frames ∧ 8 + (n + 11) + rm.locals ≤ R.locals) (hrm : rm.cells = 0 ∧ rm.slots = 0) (hn2 : As.length = ar) (hsk : st = As.reverse ++ rest) (hst : (rest.map fun v => v.category).sum ≤ 8) (hd : decode cc pc = .ok (.invokestatic index, 3)) (hn : pc + 3 = pd) (k2 : rs_X G nL p l e R s m args below meth c Q o.2 pd lv (.int o.1 :: rest)) : rs_X G nL p l e R s m args below meth c Q S pc lv st := by
  subst hn
  subst hsk
  intro H locs ls hP hS hl
  refine va_calli (va_runSN (As := As) (rest := rest) ⟨C.1, C.2.1, C.2.2.1, C.2.2.2.1, C.2.2.2.2.1⟩ hM ⟨va_cnB ar C.2.2.2.2.1 (rs_goodz wd.2.2.2) rfl hrm.1 hrm.2 (C.2.2.2.2.2.1.2.2.2.1 _ wd.1) (C.2.2.2.2.1 _ wd.2.2.1) hy hR, C.2.2.2.2.1 _ wd.2.1, trivial⟩ ⟨rs_blind G S _, fun U hU hW => ⟨rfl, by rw [hU]; exact hP, rs_kf_to C.2.2.2.2.2.1 hS hU hW⟩⟩ rfl hn2 hl.1 rfl (lv_room hst) hd ⟨Nat.zero_le _, Nat.zero_le _⟩) hS (fun q _ h => h) (fun q h => h) (fun r u t H1 locs1 ht hvm hw hB hz1 hk1 hS1 => ?_)
  have hB : va_P (rs_D0 G) rs_cl (rs_ww G u) t.heap := hB
  rw [ht] at hB
  subst hw
  exact k2 H1 locs1 ls hB hS1 hl
theorem rs_callVl (C : rs_C G cc nL own p s m args c) {y : MethodName} {b : ByteArray} {n ar index : Nat} {r : Option FieldType} {rm : Room} {As : List Value} {o : Int64 × rs_St} {k ci N : Nat} {Cn : String} {T : u_T} {fs : List Value} (hk : k < 106) (he : rs_ee G S k = .inr (ci, fs)) (hc : rs_cl[ci]? = some (Cn, T, N)) (hM : Met l y (rs_wz y b n r) rm (va_Pc (.ref (rs_ad G k) :: As) (rs_pre G S)) (va_Ql (fun r S2 => (r, S2) = o) (rs_post G) (rs_A G)) 0 0 (rs_A G)) (wd : rs_cwv own index Cn y b n r) (hy : y.cls = Cn ∧ y.cls ≠ "java/lang/invoke/MethodHandle" ∧ y.cls ≠ "java/lang/invoke/VarHandle" ∧ (parseMethodDescriptor y.desc).map (fun d => d.parameters.length) = some ar) (hR : rm.frames + 1 ≤ R.frames ∧ 8 + (n + 11) + rm.locals ≤ R.locals) (hrm : rm.cells = 0 ∧ rm.slots = 0) (hn2 : As.length = ar) (hsk : st = As.reverse ++ .ref (rs_ad G k) :: rest) (hst : (rest.map fun v => v.category).sum ≤ 8) (hd : decode cc pc = .ok (.invokevirtual index, 3)) (hn : pc + 3 = pd) (k2 : rs_X G nL p l e R s m args below meth c Q o.2 pd lv (.long o.1 :: rest)) : rs_X G nL p l e R s m args below meth c Q S pc lv st := by
  subst hn
  subst hsk
  intro H locs ls hP hS hl
  refine va_calll (va_runV (As := As) (rest := rest) ⟨C.1, C.2.1, C.2.2.1, C.2.2.2.1, C.2.2.2.2.1⟩ hM (cwV ar C.2.2.2.2.1 (rs_goodv wd) rfl hrm.1 hrm.2 hy hR) ⟨rs_blind G S _, rs_recv C.2.2.2.2.2.1.1 hP hk he hc, fun U hU hW => ⟨rfl, by rw [hU]; exact hP, rs_kf_to C.2.2.2.2.2.1 hS hU hW⟩⟩ rfl hn2 hl.1 rfl (lv_room hst) hd ⟨Nat.zero_le _, Nat.zero_le _⟩) hS (fun q _ h => h) (fun q h => h) (fun r u t H1 locs1 ht hvm hw hB hz1 hk1 hS1 => ?_)
  have hB : va_P (rs_D0 G) rs_cl (rs_ww G u) t.heap := hB
  rw [ht] at hB
  subst hw
  exact k2 H1 locs1 ls hB hS1 hl
theorem rs_callSl (C : rs_C G cc nL own p s m args c) {y : MethodName} {b : ByteArray} {n ar index : Nat} {r : Option FieldType} {rm : Room} {As : List Value} {o : Int64 × rs_St} (hM : Met l y (rs_wz y b n r) rm (va_Pc As (rs_pre G S)) (va_Ql (fun r S2 => (r, S2) = o) (rs_post G) (rs_A G)) 0 0 (rs_A G)) (wd : rs_cws own index y b n r) (hy : y.cls ≠ "java/lang/invoke/MethodHandle" ∧ y.cls ≠ "java/lang/invoke/VarHandle" ∧ (parseMethodDescriptor y.desc).map (fun d => d.parameters.length) = some ar) (hR : rm.frames + 1 ≤ R.frames ∧ 8 + (n + 11) + rm.locals ≤ R.locals) (hrm : rm.cells = 0 ∧ rm.slots = 0) (hn2 : As.length = ar) (hsk : st = As.reverse ++ rest) (hst : (rest.map fun v => v.category).sum ≤ 8) (hd : decode cc pc = .ok (.invokestatic index, 3)) (hn : pc + 3 = pd) (k2 : rs_X G nL p l e R s m args below meth c Q o.2 pd lv (.long o.1 :: rest)) : rs_X G nL p l e R s m args below meth c Q S pc lv st := by
  subst hn
  subst hsk
  intro H locs ls hP hS hl
  refine va_calll (va_runS (As := As) (rest := rest) ⟨C.1, C.2.1, C.2.2.1, C.2.2.2.1, C.2.2.2.2.1⟩ hM (va_cwS ar C.2.2.2.2.1 (rs_goods wd) rfl hrm.1 hrm.2 hy hR) ⟨rs_blind G S _, fun U hU hW => ⟨rfl, by rw [hU]; exact hP, rs_kf_to C.2.2.2.2.2.1 hS hU hW⟩⟩ rfl hn2 hl.1 rfl (lv_room hst) hd ⟨Nat.zero_le _, Nat.zero_le _⟩) hS (fun q _ h => h) (fun q h => h) (fun r u t H1 locs1 ht hvm hw hB hz1 hk1 hS1 => ?_)
  have hB : va_P (rs_D0 G) rs_cl (rs_ww G u) t.heap := hB
  rw [ht] at hB
  subst hw
  exact k2 H1 locs1 ls hB hS1 hl
theorem rs_callNl (C : rs_C G cc nL own p s m args c) {y : MethodName} {b : ByteArray} {n ar index : Nat} {r : Option FieldType} {rm : Room} {As : List Value} {o : Int64 × rs_St} (hM : Met l y (rs_wz y b n r) rm (va_Pc As (rs_pre G S)) (va_Ql (fun r S2 => (r, S2) = o) (rs_post G) (rs_A G)) 0 0 (rs_A G)) (wd : rs_cwn own index y b n r) (hy : y.cls ≠ "java/lang/invoke/MethodHandle" ∧ y.cls ≠ "java/lang/invoke/VarHandle" ∧ (parseMethodDescriptor y.desc).map (fun d => d.parameters.length) = some ar) (hR : rm.frames + 1 ≤ R.frames ∧ 8 + (n + 11) + rm.locals ≤ R.locals) (hrm : rm.cells = 0 ∧ rm.slots = 0) (hn2 : As.length = ar) (hsk : st = As.reverse ++ rest) (hst : (rest.map fun v => v.category).sum ≤ 8) (hd : decode cc pc = .ok (.invokestatic index, 3)) (hn : pc + 3 = pd) (k2 : rs_X G nL p l e R s m args below meth c Q o.2 pd lv (.long o.1 :: rest)) : rs_X G nL p l e R s m args below meth c Q S pc lv st := by
  subst hn
  subst hsk
  intro H locs ls hP hS hl
  refine va_calll (va_runSN (As := As) (rest := rest) ⟨C.1, C.2.1, C.2.2.1, C.2.2.2.1, C.2.2.2.2.1⟩ hM ⟨va_cnB ar C.2.2.2.2.1 (rs_goodz wd.2.2.2) rfl hrm.1 hrm.2 (C.2.2.2.2.2.1.2.2.2.1 _ wd.1) (C.2.2.2.2.1 _ wd.2.2.1) hy hR, C.2.2.2.2.1 _ wd.2.1, trivial⟩ ⟨rs_blind G S _, fun U hU hW => ⟨rfl, by rw [hU]; exact hP, rs_kf_to C.2.2.2.2.2.1 hS hU hW⟩⟩ rfl hn2 hl.1 rfl (lv_room hst) hd ⟨Nat.zero_le _, Nat.zero_le _⟩) hS (fun q _ h => h) (fun q h => h) (fun r u t H1 locs1 ht hvm hw hB hz1 hk1 hS1 => ?_)
  have hB : va_P (rs_D0 G) rs_cl (rs_ww G u) t.heap := hB
  rw [ht] at hB
  subst hw
  exact k2 H1 locs1 ls hB hS1 hl
theorem rs_callVq (C : rs_C G cc nL own p s m args c) {y : MethodName} {b : ByteArray} {n ar index : Nat} {r : Option FieldType} {rm : Room} {As : List Value} {o : (Option Nat) × rs_St} {k ci N : Nat} {Cn : String} {T : u_T} {fs : List Value} (hk : k < 106) (he : rs_ee G S k = .inr (ci, fs)) (hc : rs_cl[ci]? = some (Cn, T, N)) (hM : Met l y (rs_wz y b n r) rm (va_Pc (.ref (rs_ad G k) :: As) (rs_pre G S)) (va_Qq (fun r S2 => (r, S2) = o) (rs_post G) (rs_A G)) 0 0 (rs_A G)) (wd : rs_cwv own index Cn y b n r) (hy : y.cls = Cn ∧ y.cls ≠ "java/lang/invoke/MethodHandle" ∧ y.cls ≠ "java/lang/invoke/VarHandle" ∧ (parseMethodDescriptor y.desc).map (fun d => d.parameters.length) = some ar) (hR : rm.frames + 1 ≤ R.frames ∧ 8 + (n + 11) + rm.locals ≤ R.locals) (hrm : rm.cells = 0 ∧ rm.slots = 0) (hn2 : As.length = ar) (hsk : st = As.reverse ++ .ref (rs_ad G k) :: rest) (hst : (rest.map fun v => v.category).sum ≤ 8) (hd : decode cc pc = .ok (.invokevirtual index, 3)) (hn : pc + 3 = pd) (k2 : rs_X G nL p l e R s m args below meth c Q o.2 pd lv (va_rf o.1 :: rest)) : rs_X G nL p l e R s m args below meth c Q S pc lv st := by
  subst hn
  subst hsk
  intro H locs ls hP hS hl
  refine va_callq (va_runV (As := As) (rest := rest) ⟨C.1, C.2.1, C.2.2.1, C.2.2.2.1, C.2.2.2.2.1⟩ hM (cwV ar C.2.2.2.2.1 (rs_goodv wd) rfl hrm.1 hrm.2 hy hR) ⟨rs_blind G S _, rs_recv C.2.2.2.2.2.1.1 hP hk he hc, fun U hU hW => ⟨rfl, by rw [hU]; exact hP, rs_kf_to C.2.2.2.2.2.1 hS hU hW⟩⟩ rfl hn2 hl.1 rfl (lv_room hst) hd ⟨Nat.zero_le _, Nat.zero_le _⟩) hS (fun q _ h => h) (fun q h => h) (fun r u t H1 locs1 ht hvm hw hB hz1 hk1 hS1 => ?_)
  have hB : va_P (rs_D0 G) rs_cl (rs_ww G u) t.heap := hB
  rw [ht] at hB
  subst hw
  exact k2 H1 locs1 ls hB hS1 hl
theorem rs_callSq (C : rs_C G cc nL own p s m args c) {y : MethodName} {b : ByteArray} {n ar index : Nat} {r : Option FieldType} {rm : Room} {As : List Value} {o : (Option Nat) × rs_St} (hM : Met l y (rs_wz y b n r) rm (va_Pc As (rs_pre G S)) (va_Qq (fun r S2 => (r, S2) = o) (rs_post G) (rs_A G)) 0 0 (rs_A G)) (wd : rs_cws own index y b n r) (hy : y.cls ≠ "java/lang/invoke/MethodHandle" ∧ y.cls ≠ "java/lang/invoke/VarHandle" ∧ (parseMethodDescriptor y.desc).map (fun d => d.parameters.length) = some ar) (hR : rm.frames + 1 ≤ R.frames ∧ 8 + (n + 11) + rm.locals ≤ R.locals) (hrm : rm.cells = 0 ∧ rm.slots = 0) (hn2 : As.length = ar) (hsk : st = As.reverse ++ rest) (hst : (rest.map fun v => v.category).sum ≤ 8) (hd : decode cc pc = .ok (.invokestatic index, 3)) (hn : pc + 3 = pd) (k2 : rs_X G nL p l e R s m args below meth c Q o.2 pd lv (va_rf o.1 :: rest)) : rs_X G nL p l e R s m args below meth c Q S pc lv st := by
  subst hn
  subst hsk
  intro H locs ls hP hS hl
  refine va_callq (va_runS (As := As) (rest := rest) ⟨C.1, C.2.1, C.2.2.1, C.2.2.2.1, C.2.2.2.2.1⟩ hM (va_cwS ar C.2.2.2.2.1 (rs_goods wd) rfl hrm.1 hrm.2 hy hR) ⟨rs_blind G S _, fun U hU hW => ⟨rfl, by rw [hU]; exact hP, rs_kf_to C.2.2.2.2.2.1 hS hU hW⟩⟩ rfl hn2 hl.1 rfl (lv_room hst) hd ⟨Nat.zero_le _, Nat.zero_le _⟩) hS (fun q _ h => h) (fun q h => h) (fun r u t H1 locs1 ht hvm hw hB hz1 hk1 hS1 => ?_)
  have hB : va_P (rs_D0 G) rs_cl (rs_ww G u) t.heap := hB
  rw [ht] at hB
  subst hw
  exact k2 H1 locs1 ls hB hS1 hl
theorem rs_callNq (C : rs_C G cc nL own p s m args c) {y : MethodName} {b : ByteArray} {n ar index : Nat} {r : Option FieldType} {rm : Room} {As : List Value} {o : (Option Nat) × rs_St} (hM : Met l y (rs_wz y b n r) rm (va_Pc As (rs_pre G S)) (va_Qq (fun r S2 => (r, S2) = o) (rs_post G) (rs_A G)) 0 0 (rs_A G)) (wd : rs_cwn own index y b n r) (hy : y.cls ≠ "java/lang/invoke/MethodHandle" ∧ y.cls ≠ "java/lang/invoke/VarHandle" ∧ (parseMethodDescriptor y.desc).map (fun d => d.parameters.length) = some ar) (hR : rm.frames + 1 ≤ R.frames ∧ 8 + (n + 11) + rm.locals ≤ R.locals) (hrm : rm.cells = 0 ∧ rm.slots = 0) (hn2 : As.length = ar) (hsk : st = As.reverse ++ rest) (hst : (rest.map fun v => v.category).sum ≤ 8) (hd : decode cc pc = .ok (.invokestatic index, 3)) (hn : pc + 3 = pd) (k2 : rs_X G nL p l e R s m args below meth c Q o.2 pd lv (va_rf o.1 :: rest)) : rs_X G nL p l e R s m args below meth c Q S pc lv st := by
  subst hn
  subst hsk
  intro H locs ls hP hS hl
  refine va_callq (va_runSN (As := As) (rest := rest) ⟨C.1, C.2.1, C.2.2.1, C.2.2.2.1, C.2.2.2.2.1⟩ hM ⟨va_cnB ar C.2.2.2.2.1 (rs_goodz wd.2.2.2) rfl hrm.1 hrm.2 (C.2.2.2.2.2.1.2.2.2.1 _ wd.1) (C.2.2.2.2.1 _ wd.2.2.1) hy hR, C.2.2.2.2.1 _ wd.2.1, trivial⟩ ⟨rs_blind G S _, fun U hU hW => ⟨rfl, by rw [hU]; exact hP, rs_kf_to C.2.2.2.2.2.1 hS hU hW⟩⟩ rfl hn2 hl.1 rfl (lv_room hst) hd ⟨Nat.zero_le _, Nat.zero_le _⟩) hS (fun q _ h => h) (fun q h => h) (fun r u t H1 locs1 ht hvm hw hB hz1 hk1 hS1 => ?_)
  have hB : va_P (rs_D0 G) rs_cl (rs_ww G u) t.heap := hB
  rw [ht] at hB
  subst hw
  exact k2 H1 locs1 ls hB hS1 hl
theorem rs_callVv (C : rs_C G cc nL own p s m args c) {y : MethodName} {b : ByteArray} {n ar index : Nat} {r : Option FieldType} {rm : Room} {As : List Value} {o : rs_St} {k ci N : Nat} {Cn : String} {T : u_T} {fs : List Value} (hk : k < 106) (he : rs_ee G S k = .inr (ci, fs)) (hc : rs_cl[ci]? = some (Cn, T, N)) (hM : Met l y (rs_wz y b n r) rm (va_Pc (.ref (rs_ad G k) :: As) (rs_pre G S)) (va_Qv (fun S2 => S2 = o) (rs_post G) (rs_A G)) 0 0 (rs_A G)) (wd : rs_cwv own index Cn y b n r) (hy : y.cls = Cn ∧ y.cls ≠ "java/lang/invoke/MethodHandle" ∧ y.cls ≠ "java/lang/invoke/VarHandle" ∧ (parseMethodDescriptor y.desc).map (fun d => d.parameters.length) = some ar) (hR : rm.frames + 1 ≤ R.frames ∧ 8 + (n + 11) + rm.locals ≤ R.locals) (hrm : rm.cells = 0 ∧ rm.slots = 0) (hn2 : As.length = ar) (hsk : st = As.reverse ++ .ref (rs_ad G k) :: rest) (hst : (rest.map fun v => v.category).sum ≤ 8) (hd : decode cc pc = .ok (.invokevirtual index, 3)) (hn : pc + 3 = pd) (k2 : rs_X G nL p l e R s m args below meth c Q o pd lv (rest)) : rs_X G nL p l e R s m args below meth c Q S pc lv st := by
  subst hn
  subst hsk
  intro H locs ls hP hS hl
  refine va_callv (va_runV (As := As) (rest := rest) ⟨C.1, C.2.1, C.2.2.1, C.2.2.2.1, C.2.2.2.2.1⟩ hM (cwV ar C.2.2.2.2.1 (rs_goodv wd) rfl hrm.1 hrm.2 hy hR) ⟨rs_blind G S _, rs_recv C.2.2.2.2.2.1.1 hP hk he hc, fun U hU hW => ⟨rfl, by rw [hU]; exact hP, rs_kf_to C.2.2.2.2.2.1 hS hU hW⟩⟩ rfl hn2 hl.1 rfl (lv_room hst) hd ⟨Nat.zero_le _, Nat.zero_le _⟩) hS (fun q _ h => h) (fun q h => h) (fun u t H1 locs1 ht hvm hw hB hz1 hk1 hS1 => ?_)
  have hB : va_P (rs_D0 G) rs_cl (rs_ww G u) t.heap := hB
  rw [ht] at hB
  subst hw
  exact k2 H1 locs1 ls hB hS1 hl
theorem rs_callSv (C : rs_C G cc nL own p s m args c) {y : MethodName} {b : ByteArray} {n ar index : Nat} {r : Option FieldType} {rm : Room} {As : List Value} {o : rs_St} (hM : Met l y (rs_wz y b n r) rm (va_Pc As (rs_pre G S)) (va_Qv (fun S2 => S2 = o) (rs_post G) (rs_A G)) 0 0 (rs_A G)) (wd : rs_cws own index y b n r) (hy : y.cls ≠ "java/lang/invoke/MethodHandle" ∧ y.cls ≠ "java/lang/invoke/VarHandle" ∧ (parseMethodDescriptor y.desc).map (fun d => d.parameters.length) = some ar) (hR : rm.frames + 1 ≤ R.frames ∧ 8 + (n + 11) + rm.locals ≤ R.locals) (hrm : rm.cells = 0 ∧ rm.slots = 0) (hn2 : As.length = ar) (hsk : st = As.reverse ++ rest) (hst : (rest.map fun v => v.category).sum ≤ 8) (hd : decode cc pc = .ok (.invokestatic index, 3)) (hn : pc + 3 = pd) (k2 : rs_X G nL p l e R s m args below meth c Q o pd lv (rest)) : rs_X G nL p l e R s m args below meth c Q S pc lv st := by
  subst hn
  subst hsk
  intro H locs ls hP hS hl
  refine va_callv (va_runS (As := As) (rest := rest) ⟨C.1, C.2.1, C.2.2.1, C.2.2.2.1, C.2.2.2.2.1⟩ hM (va_cwS ar C.2.2.2.2.1 (rs_goods wd) rfl hrm.1 hrm.2 hy hR) ⟨rs_blind G S _, fun U hU hW => ⟨rfl, by rw [hU]; exact hP, rs_kf_to C.2.2.2.2.2.1 hS hU hW⟩⟩ rfl hn2 hl.1 rfl (lv_room hst) hd ⟨Nat.zero_le _, Nat.zero_le _⟩) hS (fun q _ h => h) (fun q h => h) (fun u t H1 locs1 ht hvm hw hB hz1 hk1 hS1 => ?_)
  have hB : va_P (rs_D0 G) rs_cl (rs_ww G u) t.heap := hB
  rw [ht] at hB
  subst hw
  exact k2 H1 locs1 ls hB hS1 hl
theorem rs_callNv (C : rs_C G cc nL own p s m args c) {y : MethodName} {b : ByteArray} {n ar index : Nat} {r : Option FieldType} {rm : Room} {As : List Value} {o : rs_St} (hM : Met l y (rs_wz y b n r) rm (va_Pc As (rs_pre G S)) (va_Qv (fun S2 => S2 = o) (rs_post G) (rs_A G)) 0 0 (rs_A G)) (wd : rs_cwn own index y b n r) (hy : y.cls ≠ "java/lang/invoke/MethodHandle" ∧ y.cls ≠ "java/lang/invoke/VarHandle" ∧ (parseMethodDescriptor y.desc).map (fun d => d.parameters.length) = some ar) (hR : rm.frames + 1 ≤ R.frames ∧ 8 + (n + 11) + rm.locals ≤ R.locals) (hrm : rm.cells = 0 ∧ rm.slots = 0) (hn2 : As.length = ar) (hsk : st = As.reverse ++ rest) (hst : (rest.map fun v => v.category).sum ≤ 8) (hd : decode cc pc = .ok (.invokestatic index, 3)) (hn : pc + 3 = pd) (k2 : rs_X G nL p l e R s m args below meth c Q o pd lv (rest)) : rs_X G nL p l e R s m args below meth c Q S pc lv st := by
  subst hn
  subst hsk
  intro H locs ls hP hS hl
  refine va_callv (va_runSN (As := As) (rest := rest) ⟨C.1, C.2.1, C.2.2.1, C.2.2.2.1, C.2.2.2.2.1⟩ hM ⟨va_cnB ar C.2.2.2.2.1 (rs_goodz wd.2.2.2) rfl hrm.1 hrm.2 (C.2.2.2.2.2.1.2.2.2.1 _ wd.1) (C.2.2.2.2.1 _ wd.2.2.1) hy hR, C.2.2.2.2.1 _ wd.2.1, trivial⟩ ⟨rs_blind G S _, fun U hU hW => ⟨rfl, by rw [hU]; exact hP, rs_kf_to C.2.2.2.2.2.1 hS hU hW⟩⟩ rfl hn2 hl.1 rfl (lv_room hst) hd ⟨Nat.zero_le _, Nat.zero_le _⟩) hS (fun q _ h => h) (fun q h => h) (fun u t H1 locs1 ht hvm hw hB hz1 hk1 hS1 => ?_)
  have hB : va_P (rs_D0 G) rs_cl (rs_ww G u) t.heap := hB
  rw [ht] at hB
  subst hw
  exact k2 H1 locs1 ls hB hS1 hl
theorem rs_iret (C : rs_C G cc nL own p s m args c) {v : Int32} {o : Int32 × rs_St} (hr : meth.sig.returnType = some .int) (hlk : meth.locks = false) (ho : some (v, S) = some o) (hd : decode cc pc = .ok (.ireturn, 1)) : rs_X G nL p l e R s m args below meth c (MQ below (va_Qi (fun r S2 => (r, S2) = o) (rs_post G) (rs_A G)) args s 0 0 (rs_A G)) S pc lv [.int v] := by
  intro H locs ls hP hS hl
  exact W.iret C.1 C.2.1 hr (fun t ht hW => ⟨⟨v, S, rfl, Option.some.inj ho, by show va_P _ _ _ t.heap; rw [ht]; exact hP⟩, hS.F ht⟩) hS.2.2 hd hlk
theorem rs_lret (C : rs_C G cc nL own p s m args c) {v : Int64} {o : Int64 × rs_St} (hr : meth.sig.returnType = some .long) (hlk : meth.locks = false) (ho : some (v, S) = some o) (hd : decode cc pc = .ok (.lreturn, 1)) : rs_X G nL p l e R s m args below meth c (MQ below (va_Ql (fun r S2 => (r, S2) = o) (rs_post G) (rs_A G)) args s 0 0 (rs_A G)) S pc lv [.long v] := by
  intro H locs ls hP hS hl
  exact W.lret C.1 C.2.1 hr (fun t ht hW => ⟨⟨v, S, rfl, Option.some.inj ho, by show va_P _ _ _ t.heap; rw [ht]; exact hP⟩, hS.F ht⟩) hS.2.2 hd hlk
theorem rs_nz {v : Int32} (h : v = 0 ∨ v = 1) : narrow .boolean (.int v) = .int v := by
  rcases h with rfl | rfl <;> rfl
theorem rs_fz {v : Int32} (h : v = 0 ∨ v = 1) : fits .boolean (.int v) = true := by
  rcases h with rfl | rfl <;> rfl
theorem rs_zret (C : rs_C G cc nL own p s m args c) {v : Int32} {o : Int32 × rs_St} (hr : meth.sig.returnType = some .boolean) (hlk : meth.locks = false) (hz : v = 0 ∨ v = 1) (ho : some (v, S) = some o) (hd : decode cc pc = .ok (.ireturn, 1)) : rs_X G nL p l e R s m args below meth c (MQ below (va_Qi (fun r S2 => (r, S2) = o) (rs_post G) (rs_A G)) args s 0 0 (rs_A G)) S pc lv [.int v] := by
  intro H locs ls hP hS hl
  exact W.zret C.1 C.2.1 hr (rs_nz hz) (fun t ht hW => ⟨⟨v, S, rfl, Option.some.inj ho, by show va_P _ _ _ t.heap; rw [ht]; exact hP⟩, hS.F ht⟩) hS.2.2 hd hlk
theorem rs_vret (C : rs_C G cc nL own p s m args c) {o : rs_St} (hr : meth.sig.returnType = none) (hlk : meth.locks = false) (ho : some S = some o) (hd : decode cc pc = .ok (.return_, 1)) : rs_X G nL p l e R s m args below meth c (MQ below (va_Qv (fun S2 => S2 = o) (rs_post G) (rs_A G)) args s 0 0 (rs_A G)) S pc lv [] := by
  intro H locs ls hP hS hl
  exact W.vret C.1 C.2.1 hr (fun t ht hW => ⟨⟨S, rfl, Option.some.inj ho, by show va_P _ _ _ t.heap; rw [ht]; exact hP⟩, hS.F ht⟩) hS.2.2 hd hlk
theorem rs_aret (C : rs_C G cc nL own p s m args c) {v : Option Nat} {o : (Option Nat) × rs_St} {rt : FieldType} (hr : meth.sig.returnType = some rt) (hrt : (∃ n, rt = .object n) ∨ ∃ t, rt = .array t) (hlk : meth.locks = false) (ho : some (v, S) = some o) (hd : decode cc pc = .ok (.areturn, 1)) : rs_X G nL p l e R s m args below meth c (MQ below (va_Qq (fun r S2 => (r, S2) = o) (rs_post G) (rs_A G)) args s 0 0 (rs_A G)) S pc lv [va_rf v] := by
  intro H locs ls hP hS hl
  exact W.aret C.1 C.2.1 hr hrt (by cases v with | none => exact Or.inl rfl | some a => exact Or.inr ⟨a, rfl⟩) (fun t ht hW => ⟨⟨v, S, rfl, Option.some.inj ho, by show va_P _ _ _ t.heap; rw [ht]; exact hP⟩, hS.F ht⟩) hS.2.2 hd hlk
theorem rs_met {y : MethodName} {maxL : Nat} {ret : Option FieldType} {rm : Room} {av : List Value} {Qc : Array Value → State → Outcome → State → Prop} (hG : rs_ok G) (hy : plainName y.cls = true) (hav : (lg_sl av).length ≤ maxL) (body : ∀ (p : Program) (e : Env) (s : State) (m : MethodId) (args : Array Value) (below : List Frame) (meth : Method) (c : Code), rs_C G cc maxL y.cls p s m args c → meth.sig.returnType = ret → meth.locks = false → rs_X G maxL p l e rm s m args below meth c (MQ below Qc args s 0 0 (rs_A G)) S 0 (lv_args 0 av) []) : Met l y (rs_wz y cc maxL ret) rm (va_Pc av (rs_pre G S)) Qc 0 0 (rs_A G) := by
  refine Met.ofW (cc := cc) (maxL := maxL) (ret := ret) hy rfl ?_
  intro p e s m args below meth c s₁ B hml hv
  obtain ⟨rfl, hP, hK⟩ := hv
  have hts := atoms_spec (ws := rs_wz y cc maxL ret) B.pre
  have hl := lv_entry av (n := maxL) hav
  rw [lg_entry_eq]
  exact body p e s m _ below meth c ⟨B.exec, B.bytes, hml, findClass_of_methodNamed B.named, fun w hw => hts w (List.mem_cons_of_mem _ hw), hK, hG⟩ B.returns B.notSynchronized s.heap [] _ hP va_S.rf hl
end rsRules
end
section
theorem rs_lk1 {i : Nat} {w : Cond} (h : tables_1_1[i]? = some w) (hg : goodWord w = true) : w ∈ rs_wg := List.mem_filter.mpr ⟨List.mem_append_right _ (List.mem_append_left _ (List.mem_of_getElem? h)), hg⟩
theorem rs_lk2 {i : Nat} {w : Cond} (h : tables_1_2[i]? = some w) (hg : goodWord w = true) : w ∈ rs_wg := List.mem_filter.mpr ⟨List.mem_append_right _ (List.mem_append_right _ (List.mem_append_left _ (List.mem_of_getElem? h))), hg⟩
theorem rs_lk3 {i : Nat} {w : Cond} (h : tables_1_3[i]? = some w) (hg : goodWord w = true) : w ∈ rs_wg := List.mem_filter.mpr ⟨List.mem_append_right _ (List.mem_append_right _ (List.mem_append_right _ (List.mem_append_left _ (List.mem_of_getElem? h)))), hg⟩
theorem rs_lk4 {i : Nat} {w : Cond} (h : tables_1_4[i]? = some w) (hg : goodWord w = true) : w ∈ rs_wg := List.mem_filter.mpr ⟨List.mem_append_right _ (List.mem_append_right _ (List.mem_append_right _ (List.mem_append_right _ (List.mem_append_left _ (List.mem_of_getElem? h))))), hg⟩
theorem rs_lk5 {i : Nat} {w : Cond} (h : tables_1_5[i]? = some w) (hg : goodWord w = true) : w ∈ rs_wg := List.mem_filter.mpr ⟨List.mem_append_right _ (List.mem_append_right _ (List.mem_append_right _ (List.mem_append_right _ (List.mem_append_right _ (List.mem_of_getElem? h))))), hg⟩
theorem wn_L : Cond.initialized RL ∈ rs_wg := rs_lk1 (i := 0) rfl rfl
theorem wn_X4 : Cond.initialized RX4 ∈ rs_wg := rs_lk1 (i := 1) rfl rfl
theorem wn_X1 : Cond.initialized RX1 ∈ rs_wg := rs_lk1 (i := 2) rfl rfl
theorem wn_X0 : Cond.initialized RX0 ∈ rs_wg := rs_lk1 (i := 3) rfl rfl
theorem wn_J10 : Cond.initialized RJ10 ∈ rs_wg := rs_lk1 (i := 4) rfl rfl
theorem wn_X3 : Cond.initialized RX3 ∈ rs_wg := rs_lk1 (i := 5) rfl rfl
theorem wn_X2 : Cond.initialized RX2 ∈ rs_wg := rs_lk1 (i := 6) rfl rfl
theorem wn_X5 : Cond.initialized RX5 ∈ rs_wg := rs_lk1 (i := 7) rfl rfl
theorem wn_J0 : Cond.initialized RJ0 ∈ rs_wg := rs_lk1 (i := 8) rfl rfl
theorem wn_J1 : Cond.initialized RJ1 ∈ rs_wg := rs_lk1 (i := 9) rfl rfl
theorem wn_J3 : Cond.initialized RJ3 ∈ rs_wg := rs_lk1 (i := 10) rfl rfl
theorem wn_J2 : Cond.initialized RJ2 ∈ rs_wg := rs_lk1 (i := 11) rfl rfl
theorem wn_J9 : Cond.initialized RJ9 ∈ rs_wg := rs_lk1 (i := 12) rfl rfl
theorem wn_J7 : Cond.initialized RJ7 ∈ rs_wg := rs_lk1 (i := 13) rfl rfl
theorem wn_J6 : Cond.initialized RJ6 ∈ rs_wg := rs_lk1 (i := 14) rfl rfl
theorem wq_L_7 : Cond.classLink RL 7 RX4 ∈ rs_wg := rs_lk1 (i := 15) rfl rfl
theorem wj_X4 : Cond.instantiable RX4 8 ∈ rs_wg := rs_lk1 (i := 16) rfl rfl
theorem wl_L_9 : Cond.methodLink RL 9 yX4_init ∈ rs_wg := rs_lk1 (i := 17) rfl rfl
theorem wi_yX4_init : Cond.instanceMethod yX4_init ∈ rs_wg := rs_lk1 (i := 18) rfl rfl
theorem wc_yX4_init : Cond.code yX4_init cX4_init 2 none ∈ rs_wg := rs_lk1 (i := 19) rfl rfl
theorem wl_X4_1 : Cond.methodLink RX4 1 objectInit ∈ rs_wg := rs_lk1 (i := 20) rfl rfl
theorem wi_objectInit : Cond.instanceMethod objectInit ∈ rs_wg := rs_lk1 (i := 21) rfl rfl
theorem wc_objectInit : Cond.code objectInit object_method_1_code 1 none ∈ rs_wg := rs_lk1 (i := 22) rfl rfl
theorem wq_X4_7 : Cond.classLink RX4 7 RX1 ∈ rs_wg := rs_lk1 (i := 23) rfl rfl
theorem wj_X1 : Cond.instantiable RX1 11 ∈ rs_wg := rs_lk1 (i := 24) rfl rfl
theorem wl_X4_9 : Cond.methodLink RX4 9 yX1_init ∈ rs_wg := rs_lk1 (i := 25) rfl rfl
theorem wi_yX1_init : Cond.instanceMethod yX1_init ∈ rs_wg := rs_lk1 (i := 26) rfl rfl
theorem wc_yX1_init : Cond.code yX1_init cX1_init 2 none ∈ rs_wg := rs_lk1 (i := 27) rfl rfl
theorem wl_X1_3 : Cond.methodLink RX1 3 objectInit ∈ rs_wg := rs_lk1 (i := 28) rfl rfl
theorem wq_X1_9 : Cond.classLink RX1 9 RX0 ∈ rs_wg := rs_lk1 (i := 29) rfl rfl
theorem wj_X0 : Cond.instantiable RX0 2 ∈ rs_wg := rs_lk1 (i := 31) rfl rfl
theorem wi_yX0_init : Cond.instanceMethod yX0_init ∈ rs_wg := rs_lk1 (i := 33) rfl rfl
theorem wc_yX0_init : Cond.code yX0_init cX0_init 1 none ∈ rs_wg := rs_lk1 (i := 34) rfl rfl
theorem wl_X0_3 : Cond.methodLink RX0 3 objectInit ∈ rs_wg := rs_lk1 (i := 35) rfl rfl
theorem wl_X0_9 : Cond.fieldLink RX0 9 "RowShutter$Lamp" "parts" "[I" ∈ rs_wg := rs_lk1 (i := 36) rfl rfl
theorem wl_X1_67 : Cond.fieldLink RX1 67 "RowShutter$Lamp" "parts" "[I" ∈ rs_wg := rs_lk1 (i := 37) rfl rfl
theorem wl_X4_88 : Cond.fieldLink RX4 88 "RowShutter$Lamp" "parts" "[I" ∈ rs_wg := rs_lk1 (i := 38) rfl rfl
theorem wl_X0_15 : Cond.fieldLink RX0 15 "RowShutter$Lamp" "sums" "[I" ∈ rs_wg := rs_lk1 (i := 39) rfl rfl
theorem wl_X1_37 : Cond.methodLink RX1 37 arraycopyName ∈ rs_wg := rs_lk1 (i := 48) rfl rfl
theorem ws_arraycopyName : Cond.static arraycopyName ∈ rs_wg := rs_lk1 (i := 49) rfl rfl
theorem wn_arraycopy : Cond.native arraycopyName ∈ rs_wg := rs_lk1 (i := 50) rfl rfl
theorem wl_X1_11 : Cond.fieldLink RX1 11 "RowShutter$Scene" "lamps" "[LRowShutter$Lamp;" ∈ rs_wg := rs_lk1 (i := 51) rfl rfl
theorem wl_X4_158 : Cond.fieldLink RX4 158 "RowShutter$Scene" "lamps" "[LRowShutter$Lamp;" ∈ rs_wg := rs_lk1 (i := 52) rfl rfl
theorem wl_X1_43 : Cond.fieldLink RX1 43 "RowShutter$Scene" "lampCount" "I" ∈ rs_wg := rs_lk1 (i := 53) rfl rfl
theorem wl_X3_57 : Cond.fieldLink RX3 57 "RowShutter$Scene" "lampCount" "I" ∈ rs_wg := rs_lk1 (i := 54) rfl rfl
theorem wl_X4_68 : Cond.fieldLink RX4 68 "RowShutter$Scene" "lampCount" "I" ∈ rs_wg := rs_lk1 (i := 55) rfl rfl
theorem wl_X1_17 : Cond.fieldLink RX1 17 "RowShutter$Scene" "rules" "[I" ∈ rs_wg := rs_lk1 (i := 56) rfl rfl
theorem wl_X3_81 : Cond.fieldLink RX3 81 "RowShutter$Scene" "rules" "[I" ∈ rs_wg := rs_lk1 (i := 57) rfl rfl
theorem wl_X4_77 : Cond.fieldLink RX4 77 "RowShutter$Scene" "rules" "[I" ∈ rs_wg := rs_lk1 (i := 58) rfl rfl
theorem wl_X1_47 : Cond.fieldLink RX1 47 "RowShutter$Scene" "tick" "I" ∈ rs_wg := rs_lk1 (i := 59) rfl rfl
theorem wl_X4_74 : Cond.fieldLink RX4 74 "RowShutter$Scene" "tick" "I" ∈ rs_wg := rs_lk1 (i := 60) rfl rfl
theorem wl_X1_50 : Cond.fieldLink RX1 50 "RowShutter$Scene" "shots" "I" ∈ rs_wg := rs_lk1 (i := 61) rfl rfl
theorem wl_X4_71 : Cond.fieldLink RX4 71 "RowShutter$Scene" "shots" "I" ∈ rs_wg := rs_lk1 (i := 62) rfl rfl
theorem wl_X1_21 : Cond.fieldLink RX1 21 "RowShutter$Scene" "latest" "[I" ∈ rs_wg := rs_lk1 (i := 63) rfl rfl
theorem wl_X4_100 : Cond.fieldLink RX4 100 "RowShutter$Scene" "latest" "[I" ∈ rs_wg := rs_lk1 (i := 64) rfl rfl
theorem wl_X1_53 : Cond.fieldLink RX1 53 "RowShutter$Scene" "latestRows" "I" ∈ rs_wg := rs_lk1 (i := 65) rfl rfl
theorem wl_X4_97 : Cond.fieldLink RX4 97 "RowShutter$Scene" "latestRows" "I" ∈ rs_wg := rs_lk1 (i := 66) rfl rfl
theorem wl_X1_24 : Cond.fieldLink RX1 24 "RowShutter$Scene" "seenShot" "[I" ∈ rs_wg := rs_lk1 (i := 67) rfl rfl
theorem wl_X1_27 : Cond.fieldLink RX1 27 "RowShutter$Scene" "seenRow" "[I" ∈ rs_wg := rs_lk1 (i := 68) rfl rfl
theorem wl_X1_30 : Cond.fieldLink RX1 30 "RowShutter$Scene" "seenBright" "[I" ∈ rs_wg := rs_lk1 (i := 69) rfl rfl
theorem wl_X1_56 : Cond.fieldLink RX1 56 "RowShutter$Scene" "seenCount" "I" ∈ rs_wg := rs_lk1 (i := 70) rfl rfl
theorem wl_X4_182 : Cond.fieldLink RX4 182 "RowShutter$Scene" "seenCount" "I" ∈ rs_wg := rs_lk1 (i := 71) rfl rfl
theorem wq_X4_27 : Cond.classLink RX4 27 RX2 ∈ rs_wg := rs_lk1 (i := 96) rfl rfl
theorem wq_X4_33 : Cond.classLink RX4 33 RX3 ∈ rs_wg := rs_lk1 (i := 98) rfl rfl
theorem wj_X3 : Cond.instantiable RX3 7 ∈ rs_wg := rs_lk1 (i := 99) rfl rfl
theorem wi_yX3_init : Cond.instanceMethod yX3_init ∈ rs_wg := rs_lk1 (i := 101) rfl rfl
theorem wc_yX3_init : Cond.code yX3_init cX3_init 1 none ∈ rs_wg := rs_lk1 (i := 102) rfl rfl
theorem wl_X3_3 : Cond.methodLink RX3 3 objectInit ∈ rs_wg := rs_lk1 (i := 103) rfl rfl
theorem wl_X3_9 : Cond.fieldLink RX3 9 "RowShutter$Tape" "bytes" "[B" ∈ rs_wg := rs_lk1 (i := 104) rfl rfl
theorem wl_X3_15 : Cond.fieldLink RX3 15 "RowShutter$Tape" "length" "I" ∈ rs_wg := rs_lk1 (i := 105) rfl rfl
theorem wl_X4_53 : Cond.fieldLink RX4 53 "RowShutter$Tape" "length" "I" ∈ rs_wg := rs_lk1 (i := 106) rfl rfl
theorem wl_X3_36 : Cond.fieldLink RX3 36 "RowShutter$Tape" "token" "I" ∈ rs_wg := rs_lk1 (i := 107) rfl rfl
theorem wl_X3_43 : Cond.fieldLink RX3 43 "RowShutter$Tape" "start" "I" ∈ rs_wg := rs_lk1 (i := 108) rfl rfl
theorem wl_X3_24 : Cond.fieldLink RX3 24 "RowShutter$Tape" "at" "I" ∈ rs_wg := rs_lk1 (i := 109) rfl rfl
theorem wl_X3_27 : Cond.fieldLink RX3 27 "RowShutter$Tape" "toldRules" "I" ∈ rs_wg := rs_lk1 (i := 110) rfl rfl
theorem wl_X3_30 : Cond.fieldLink RX3 30 "RowShutter$Tape" "fault" "I" ∈ rs_wg := rs_lk1 (i := 111) rfl rfl
theorem wl_X4_61 : Cond.fieldLink RX4 61 "RowShutter$Tape" "fault" "I" ∈ rs_wg := rs_lk1 (i := 112) rfl rfl
theorem wj_X2 : Cond.instantiable RX2 3 ∈ rs_wg := rs_lk1 (i := 130) rfl rfl
theorem wi_yX2_init : Cond.instanceMethod yX2_init ∈ rs_wg := rs_lk1 (i := 132) rfl rfl
theorem wc_yX2_init : Cond.code yX2_init cX2_init 1 none ∈ rs_wg := rs_lk1 (i := 133) rfl rfl
theorem wl_X2_3 : Cond.methodLink RX2 3 objectInit ∈ rs_wg := rs_lk1 (i := 134) rfl rfl
theorem wl_X2_9 : Cond.fieldLink RX2 9 "RowShutter$Sheet" "cells" "[I" ∈ rs_wg := rs_lk1 (i := 135) rfl rfl
theorem wl_X4_247 : Cond.fieldLink RX4 247 "RowShutter$Sheet" "cells" "[I" ∈ rs_wg := rs_lk1 (i := 136) rfl rfl
theorem wl_X2_15 : Cond.fieldLink RX2 15 "RowShutter$Sheet" "lane" "I" ∈ rs_wg := rs_lk1 (i := 137) rfl rfl
theorem wl_X4_228 : Cond.fieldLink RX4 228 "RowShutter$Sheet" "lane" "I" ∈ rs_wg := rs_lk1 (i := 138) rfl rfl
theorem wl_X2_25 : Cond.fieldLink RX2 25 "RowShutter$Sheet" "size" "I" ∈ rs_wg := rs_lk1 (i := 139) rfl rfl
theorem wl_X4_231 : Cond.fieldLink RX4 231 "RowShutter$Sheet" "size" "I" ∈ rs_wg := rs_lk1 (i := 140) rfl rfl
theorem wl_X4_10 : Cond.fieldLink RX4 10 "RowShutter" "now" "LRowShutter$Scene;" ∈ rs_wg := rs_lk1 (i := 148) rfl rfl
theorem wl_X4_16 : Cond.fieldLink RX4 16 "RowShutter" "draft" "LRowShutter$Scene;" ∈ rs_wg := rs_lk1 (i := 149) rfl rfl
theorem wl_X4_19 : Cond.fieldLink RX4 19 "RowShutter" "images" "[LRowShutter$Scene;" ∈ rs_wg := rs_lk1 (i := 150) rfl rfl
theorem wl_X4_23 : Cond.fieldLink RX4 23 "RowShutter" "kept" "[Z" ∈ rs_wg := rs_lk1 (i := 151) rfl rfl
theorem wl_X4_29 : Cond.fieldLink RX4 29 "RowShutter" "sheets" "[LRowShutter$Sheet;" ∈ rs_wg := rs_lk1 (i := 152) rfl rfl
theorem wl_X4_36 : Cond.fieldLink RX4 36 "RowShutter" "tape" "LRowShutter$Tape;" ∈ rs_wg := rs_lk1 (i := 153) rfl rfl
theorem wl_X4_40 : Cond.fieldLink RX4 40 "RowShutter" "brights" "[I" ∈ rs_wg := rs_lk1 (i := 154) rfl rfl
theorem wl_X4_221 : Cond.fieldLink RX4 221 "RowShutter" "tornBy" "I" ∈ rs_wg := rs_lk1 (i := 155) rfl rfl
theorem wl_L_13 : Cond.methodLink RL 13 yX4_feed ∈ rs_wg := rs_lk1 (i := 173) rfl rfl
theorem wi_yX4_feed : Cond.instanceMethod yX4_feed ∈ rs_wg := rs_lk1 (i := 174) rfl rfl
theorem wx_yX4_feed : Cond.selects RX4 yX4_feed yX4_feed ∈ rs_wg := rs_lk1 (i := 175) rfl rfl
theorem wc_yX4_feed : Cond.code yX4_feed cX4_feed 2 (some FieldType.int) ∈ rs_wg := rs_lk1 (i := 176) rfl rfl
theorem wl_X4_45 : Cond.methodLink RX4 45 yX4_outside ∈ rs_wg := rs_lk1 (i := 177) rfl rfl
theorem ws_yX4_outside : Cond.static yX4_outside ∈ rs_wg := rs_lk1 (i := 178) rfl rfl
theorem wc_yX4_outside : Cond.code yX4_outside cX4_outside 3 (some FieldType.boolean) ∈ rs_wg := rs_lk1 (i := 179) rfl rfl
theorem wl_X4_49 : Cond.methodLink RX4 49 yX3_append ∈ rs_wg := rs_lk1 (i := 180) rfl rfl
theorem wi_yX3_append : Cond.instanceMethod yX3_append ∈ rs_wg := rs_lk1 (i := 181) rfl rfl
theorem wx_yX3_append : Cond.selects RX3 yX3_append yX3_append ∈ rs_wg := rs_lk1 (i := 182) rfl rfl
theorem wc_yX3_append : Cond.code yX3_append cX3_append 2 (some FieldType.boolean) ∈ rs_wg := rs_lk1 (i := 183) rfl rfl
theorem wl_L_18 : Cond.methodLink RL 18 yX4_end ∈ rs_wg := rs_lk1 (i := 184) rfl rfl
theorem wi_yX4_end : Cond.instanceMethod yX4_end ∈ rs_wg := rs_lk1 (i := 185) rfl rfl
theorem wx_yX4_end : Cond.selects RX4 yX4_end yX4_end ∈ rs_wg := rs_lk1 (i := 186) rfl rfl
theorem wc_yX4_end : Cond.code yX4_end cX4_end 3 (some FieldType.int) ∈ rs_wg := rs_lk1 (i := 187) rfl rfl
theorem wl_L_22 : Cond.methodLink RL 22 yX4_text ∈ rs_wg := rs_lk1 (i := 188) rfl rfl
theorem wi_yX4_text : Cond.instanceMethod yX4_text ∈ rs_wg := rs_lk1 (i := 189) rfl rfl
theorem wx_yX4_text : Cond.selects RX4 yX4_text yX4_text ∈ rs_wg := rs_lk1 (i := 190) rfl rfl
theorem wc_yX4_text : Cond.code yX4_text cX4_text 3 (some FieldType.int) ∈ rs_wg := rs_lk1 (i := 191) rfl rfl
theorem wl_X4_57 : Cond.methodLink RX4 57 yX3_readInto ∈ rs_wg := rs_lk1 (i := 192) rfl rfl
theorem wi_yX3_readInto : Cond.instanceMethod yX3_readInto ∈ rs_wg := rs_lk1 (i := 193) rfl rfl
theorem wx_yX3_readInto : Cond.selects RX3 yX3_readInto yX3_readInto ∈ rs_wg := rs_lk1 (i := 194) rfl rfl
theorem wc_yX3_readInto : Cond.code yX3_readInto cX3_readInto 3 (some FieldType.int) ∈ rs_wg := rs_lk1 (i := 195) rfl rfl
theorem wl_X3_19 : Cond.methodLink RX3 19 yX1_clear ∈ rs_wg := rs_lk1 (i := 196) rfl rfl
theorem wi_yX1_clear : Cond.instanceMethod yX1_clear ∈ rs_wg := rs_lk1 (i := 197) rfl rfl
theorem wx_yX1_clear : Cond.selects RX1 yX1_clear yX1_clear ∈ rs_wg := rs_lk1 (i := 198) rfl rfl
theorem wc_yX1_clear : Cond.code yX1_clear cX1_clear 1 none ∈ rs_wg := rs_lk1 (i := 199) rfl rfl
theorem wl_X3_33 : Cond.methodLink RX3 33 yX3_advance ∈ rs_wg := rs_lk1 (i := 200) rfl rfl
theorem wi_yX3_advance : Cond.instanceMethod yX3_advance ∈ rs_wg := rs_lk1 (i := 202) rfl rfl
theorem wc_yX3_advance : Cond.code yX3_advance cX3_advance 2 none ∈ rs_wg := rs_lk1 (i := 203) rfl rfl
theorem wl_X3_88 : Cond.methodLink RX3 88 yX3_takeAll ∈ rs_wg := rs_lk1 (i := 204) rfl rfl
theorem wi_yX3_takeAll : Cond.instanceMethod yX3_takeAll ∈ rs_wg := rs_lk1 (i := 206) rfl rfl
theorem wc_yX3_takeAll : Cond.code yX3_takeAll cX3_takeAll 3 none ∈ rs_wg := rs_lk1 (i := 207) rfl rfl
theorem wl_X3_39 : Cond.methodLink RX3 39 yX3_readLine ∈ rs_wg := rs_lk1 (i := 208) rfl rfl
theorem wi_yX3_readLine : Cond.instanceMethod yX3_readLine ∈ rs_wg := rs_lk1 (i := 210) rfl rfl
theorem wc_yX3_readLine : Cond.code yX3_readLine cX3_readLine 3 none ∈ rs_wg := rs_lk1 (i := 211) rfl rfl
theorem wl_X3_46 : Cond.methodLink RX3 46 yX3_lineBegun ∈ rs_wg := rs_lk1 (i := 212) rfl rfl
theorem wi_yX3_lineBegun : Cond.instanceMethod yX3_lineBegun ∈ rs_wg := rs_lk1 (i := 214) rfl rfl
theorem wc_yX3_lineBegun : Cond.code yX3_lineBegun cX3_lineBegun 2 (some FieldType.int) ∈ rs_wg := rs_lk1 (i := 215) rfl rfl
theorem wl_X3_92 : Cond.methodLink RX3 92 yX3_nameOf ∈ rs_wg := rs_lk1 (i := 216) rfl rfl
theorem ws_yX3_nameOf : Cond.static yX3_nameOf ∈ rs_wg := rs_lk1 (i := 217) rfl rfl
theorem wc_yX3_nameOf : Cond.code yX3_nameOf cX3_nameOf 1 (some (FieldType.object "java/lang/String")) ∈ rs_wg := rs_lk1 (i := 218) rfl rfl
theorem wl_X3_96 : Cond.methodLink RX3 96 yX3_isCalled ∈ rs_wg := rs_lk1 (i := 227) rfl rfl
theorem wi_yX3_isCalled : Cond.instanceMethod yX3_isCalled ∈ rs_wg := rs_lk1 (i := 229) rfl rfl
theorem wc_yX3_isCalled : Cond.code yX3_isCalled cX3_isCalled 3 (some FieldType.boolean) ∈ rs_wg := rs_lk1 (i := 230) rfl rfl
theorem wl_X3_100 : Cond.methodLink RX3 100 yJ0_length_8abf5 ∈ rs_wg := rs_lk1 (i := 231) rfl rfl
theorem wi_yJ0_length_8abf5 : Cond.instanceMethod yJ0_length_8abf5 ∈ rs_wg := rs_lk1 (i := 232) rfl rfl
theorem wx_yJ0_length_8abf5 : Cond.selects RJ0 yJ0_length_8abf5 yJ0_length_8abf5 ∈ rs_wg := rs_lk1 (i := 233) rfl rfl
theorem wc_yJ0_length_8abf5 : Cond.code yJ0_length_8abf5 cJ0_length_8abf5 1 (some FieldType.int) ∈ rs_wg := rs_lk1 (i := 234) rfl rfl
theorem wl_J0_335 : Cond.methodLink RJ0 335 yJ0_coder_7d493 ∈ rs_wg := rs_lk1 (i := 235) rfl rfl
theorem wi_yJ0_coder_7d493 : Cond.instanceMethod yJ0_coder_7d493 ∈ rs_wg := rs_lk1 (i := 236) rfl rfl
theorem wx_yJ0_coder_7d493 : Cond.selects RJ0 yJ0_coder_7d493 yJ0_coder_7d493 ∈ rs_wg := rs_lk1 (i := 237) rfl rfl
theorem wc_yJ0_coder_7d493 : Cond.code yJ0_coder_7d493 cJ0_coder_7d493 1 (some FieldType.byte) ∈ rs_wg := rs_lk1 (i := 238) rfl rfl
theorem wl_J0_38 : Cond.fieldLink RJ0 38 "java/lang/String" "COMPACT_STRINGS" "Z" ∈ rs_wg := rs_lk1 (i := 239) rfl rfl
theorem wl_X3_104 : Cond.methodLink RX3 104 yJ0_charAt_5068e ∈ rs_wg := rs_lk2 (i := 1) rfl rfl
theorem wi_yJ0_charAt_5068e : Cond.instanceMethod yJ0_charAt_5068e ∈ rs_wg := rs_lk2 (i := 2) rfl rfl
theorem wx_yJ0_charAt_5068e : Cond.selects RJ0 yJ0_charAt_5068e yJ0_charAt_5068e ∈ rs_wg := rs_lk2 (i := 3) rfl rfl
theorem wc_yJ0_charAt_5068e : Cond.code yJ0_charAt_5068e cJ0_charAt_5068e 2 (some FieldType.char) ∈ rs_wg := rs_lk2 (i := 4) rfl rfl
theorem wl_J0_492 : Cond.methodLink RJ0 492 yJ0_isLatin1_aae02 ∈ rs_wg := rs_lk2 (i := 5) rfl rfl
theorem wi_yJ0_isLatin1_aae02 : Cond.instanceMethod yJ0_isLatin1_aae02 ∈ rs_wg := rs_lk2 (i := 6) rfl rfl
theorem wx_yJ0_isLatin1_aae02 : Cond.selects RJ0 yJ0_isLatin1_aae02 yJ0_isLatin1_aae02 ∈ rs_wg := rs_lk2 (i := 7) rfl rfl
theorem wc_yJ0_isLatin1_aae02 : Cond.code yJ0_isLatin1_aae02 cJ0_isLatin1_aae02 1 (some FieldType.boolean) ∈ rs_wg := rs_lk2 (i := 8) rfl rfl
theorem wl_J0_495 : Cond.methodLink RJ0 495 yJ1_charAt_3b067 ∈ rs_wg := rs_lk2 (i := 9) rfl rfl
theorem ws_yJ1_charAt_3b067 : Cond.static yJ1_charAt_3b067 ∈ rs_wg := rs_lk2 (i := 10) rfl rfl
theorem wc_yJ1_charAt_3b067 : Cond.code yJ1_charAt_3b067 cJ1_charAt_3b067 2 (some FieldType.char) ∈ rs_wg := rs_lk2 (i := 11) rfl rfl
theorem wl_J1_9 : Cond.methodLink RJ1 9 yJ0_checkIndex_df160 ∈ rs_wg := rs_lk2 (i := 12) rfl rfl
theorem ws_yJ0_checkIndex_df160 : Cond.static yJ0_checkIndex_df160 ∈ rs_wg := rs_lk2 (i := 13) rfl rfl
theorem wc_yJ0_checkIndex_df160 : Cond.code yJ0_checkIndex_df160 cJ0_checkIndex_df160 2 none ∈ rs_wg := rs_lk2 (i := 14) rfl rfl
theorem wl_J0_1053 : Cond.fieldLink RJ0 1053 "jdk/internal/util/Preconditions" "SIOOBE_FORMATTER" "Ljava/util/function/BiFunction;" ∈ rs_wg := rs_lk2 (i := 15) rfl rfl
theorem wl_J0_1059 : Cond.methodLink RJ0 1059 yJ3_checkIndex_8e157 ∈ rs_wg := rs_lk2 (i := 17) rfl rfl
theorem ws_yJ3_checkIndex_8e157 : Cond.static yJ3_checkIndex_8e157 ∈ rs_wg := rs_lk2 (i := 18) rfl rfl
theorem wc_yJ3_checkIndex_8e157 : Cond.code yJ3_checkIndex_8e157 cJ3_checkIndex_8e157 3 (some FieldType.int) ∈ rs_wg := rs_lk2 (i := 19) rfl rfl
theorem wl_J0_498 : Cond.methodLink RJ0 498 yJ2_charAt_3b067 ∈ rs_wg := rs_lk2 (i := 20) rfl rfl
theorem ws_yJ2_charAt_3b067 : Cond.static yJ2_charAt_3b067 ∈ rs_wg := rs_lk2 (i := 21) rfl rfl
theorem wc_yJ2_charAt_3b067 : Cond.code yJ2_charAt_3b067 cJ2_charAt_3b067 2 (some FieldType.char) ∈ rs_wg := rs_lk2 (i := 22) rfl rfl
theorem wl_J2_67 : Cond.methodLink RJ2 67 yJ2_checkIndex_2214a ∈ rs_wg := rs_lk2 (i := 23) rfl rfl
theorem ws_yJ2_checkIndex_2214a : Cond.static yJ2_checkIndex_2214a ∈ rs_wg := rs_lk2 (i := 24) rfl rfl
theorem wc_yJ2_checkIndex_2214a : Cond.code yJ2_checkIndex_2214a cJ2_checkIndex_2214a 2 none ∈ rs_wg := rs_lk2 (i := 25) rfl rfl
theorem wl_J2_48 : Cond.methodLink RJ2 48 yJ2_length_9d52b ∈ rs_wg := rs_lk2 (i := 26) rfl rfl
theorem ws_yJ2_length_9d52b : Cond.static yJ2_length_9d52b ∈ rs_wg := rs_lk2 (i := 27) rfl rfl
theorem wc_yJ2_length_9d52b : Cond.code yJ2_length_9d52b cJ2_length_9d52b 1 (some FieldType.int) ∈ rs_wg := rs_lk2 (i := 28) rfl rfl
theorem wl_J2_414 : Cond.methodLink RJ2 414 yJ0_checkIndex_df160 ∈ rs_wg := rs_lk2 (i := 29) rfl rfl
theorem wl_J2_71 : Cond.methodLink RJ2 71 yJ2_getChar_3b067 ∈ rs_wg := rs_lk2 (i := 30) rfl rfl
theorem ws_yJ2_getChar_3b067 : Cond.static yJ2_getChar_3b067 ∈ rs_wg := rs_lk2 (i := 31) rfl rfl
theorem wc_yJ2_getChar_3b067 : Cond.code yJ2_getChar_3b067 cJ2_getChar_3b067 2 (some FieldType.char) ∈ rs_wg := rs_lk2 (i := 32) rfl rfl
theorem wl_J2_44 : Cond.fieldLink RJ2 44 "java/lang/StringUTF16" "$assertionsDisabled" "Z" ∈ rs_wg := rs_lk2 (i := 33) rfl rfl
theorem wl_J2_59 : Cond.fieldLink RJ2 59 "java/lang/StringUTF16" "HI_BYTE_SHIFT" "I" ∈ rs_wg := rs_lk2 (i := 35) rfl rfl
theorem wl_J2_63 : Cond.fieldLink RJ2 63 "java/lang/StringUTF16" "LO_BYTE_SHIFT" "I" ∈ rs_wg := rs_lk2 (i := 37) rfl rfl
theorem wl_X3_50 : Cond.methodLink RX3 50 yX3_readLamp ∈ rs_wg := rs_lk2 (i := 39) rfl rfl
theorem wi_yX3_readLamp : Cond.instanceMethod yX3_readLamp ∈ rs_wg := rs_lk2 (i := 41) rfl rfl
theorem wc_yX3_readLamp : Cond.code yX3_readLamp cX3_readLamp 6 none ∈ rs_wg := rs_lk2 (i := 42) rfl rfl
theorem wl_X3_67 : Cond.methodLink RX3 67 yX3_readNumber ∈ rs_wg := rs_lk2 (i := 47) rfl rfl
theorem wi_yX3_readNumber : Cond.instanceMethod yX3_readNumber ∈ rs_wg := rs_lk2 (i := 49) rfl rfl
theorem wc_yX3_readNumber : Cond.code yX3_readNumber cX3_readNumber 5 (some FieldType.int) ∈ rs_wg := rs_lk2 (i := 50) rfl rfl
theorem wl_X3_71 : Cond.methodLink RX3 71 yX1_addLamp ∈ rs_wg := rs_lk2 (i := 52) rfl rfl
theorem wi_yX1_addLamp : Cond.instanceMethod yX1_addLamp ∈ rs_wg := rs_lk2 (i := 53) rfl rfl
theorem wx_yX1_addLamp : Cond.selects RX1 yX1_addLamp yX1_addLamp ∈ rs_wg := rs_lk2 (i := 54) rfl rfl
theorem wc_yX1_addLamp : Cond.code yX1_addLamp cX1_addLamp 6 (some FieldType.boolean) ∈ rs_wg := rs_lk2 (i := 55) rfl rfl
theorem wl_X1_63 : Cond.methodLink RX1 63 yX0_become ∈ rs_wg := rs_lk2 (i := 56) rfl rfl
theorem wi_yX0_become : Cond.instanceMethod yX0_become ∈ rs_wg := rs_lk2 (i := 57) rfl rfl
theorem wx_yX0_become : Cond.selects RX0 yX0_become yX0_become ∈ rs_wg := rs_lk2 (i := 58) rfl rfl
theorem wc_yX0_become : Cond.code yX0_become cX0_become 3 none ∈ rs_wg := rs_lk2 (i := 59) rfl rfl
theorem ws_yX4_isPart : Cond.static yX4_isPart ∈ rs_wg := rs_lk2 (i := 61) rfl rfl
theorem wc_yX4_isPart : Cond.code yX4_isPart cX4_isPart 2 (some FieldType.boolean) ∈ rs_wg := rs_lk2 (i := 62) rfl rfl
theorem wl_X4_237 : Cond.fieldLink RX4 237 "RowShutter" "PART_LEAST" "[I" ∈ rs_wg := rs_lk2 (i := 63) rfl rfl
theorem wl_X4_240 : Cond.fieldLink RX4 240 "RowShutter" "PART_MOST" "[I" ∈ rs_wg := rs_lk2 (i := 64) rfl rfl
theorem wl_X0_28 : Cond.methodLink RX0 28 yX0_sumUp ∈ rs_wg := rs_lk2 (i := 65) rfl rfl
theorem wi_yX0_sumUp : Cond.instanceMethod yX0_sumUp ∈ rs_wg := rs_lk2 (i := 67) rfl rfl
theorem wc_yX0_sumUp : Cond.code yX0_sumUp cX0_sumUp 2 none ∈ rs_wg := rs_lk2 (i := 68) rfl rfl
theorem wl_X0_37 : Cond.methodLink RX0 37 yX0_givesAt ∈ rs_wg := rs_lk2 (i := 69) rfl rfl
theorem wi_yX0_givesAt : Cond.instanceMethod yX0_givesAt ∈ rs_wg := rs_lk2 (i := 71) rfl rfl
theorem wc_yX0_givesAt : Cond.code yX0_givesAt cX0_givesAt 5 (some FieldType.int) ∈ rs_wg := rs_lk2 (i := 72) rfl rfl
theorem wl_X3_54 : Cond.methodLink RX3 54 yX3_readRule ∈ rs_wg := rs_lk2 (i := 73) rfl rfl
theorem wi_yX3_readRule : Cond.instanceMethod yX3_readRule ∈ rs_wg := rs_lk2 (i := 75) rfl rfl
theorem wc_yX3_readRule : Cond.code yX3_readRule cX3_readRule 4 none ∈ rs_wg := rs_lk2 (i := 76) rfl rfl
theorem wl_X4_64 : Cond.methodLink RX4 64 yX1_copyFrom ∈ rs_wg := rs_lk2 (i := 81) rfl rfl
theorem wi_yX1_copyFrom : Cond.instanceMethod yX1_copyFrom ∈ rs_wg := rs_lk2 (i := 82) rfl rfl
theorem wx_yX1_copyFrom : Cond.selects RX1 yX1_copyFrom yX1_copyFrom ∈ rs_wg := rs_lk2 (i := 83) rfl rfl
theorem wc_yX1_copyFrom : Cond.code yX1_copyFrom cX1_copyFrom 3 none ∈ rs_wg := rs_lk2 (i := 84) rfl rfl
theorem wl_X1_59 : Cond.methodLink RX1 59 yX0_copyFrom ∈ rs_wg := rs_lk2 (i := 85) rfl rfl
theorem wi_yX0_copyFrom : Cond.instanceMethod yX0_copyFrom ∈ rs_wg := rs_lk2 (i := 86) rfl rfl
theorem wx_yX0_copyFrom : Cond.selects RX0 yX0_copyFrom yX0_copyFrom ∈ rs_wg := rs_lk2 (i := 87) rfl rfl
theorem wc_yX0_copyFrom : Cond.code yX0_copyFrom cX0_copyFrom 2 none ∈ rs_wg := rs_lk2 (i := 88) rfl rfl
theorem wl_X0_18 : Cond.methodLink RX0 18 arraycopyName ∈ rs_wg := rs_lk2 (i := 89) rfl rfl
theorem wl_L_27 : Cond.methodLink RL 27 yX4_fault ∈ rs_wg := rs_lk2 (i := 90) rfl rfl
theorem wi_yX4_fault : Cond.instanceMethod yX4_fault ∈ rs_wg := rs_lk2 (i := 91) rfl rfl
theorem wx_yX4_fault : Cond.selects RX4 yX4_fault yX4_fault ∈ rs_wg := rs_lk2 (i := 92) rfl rfl
theorem wc_yX4_fault : Cond.code yX4_fault cX4_fault 1 (some FieldType.int) ∈ rs_wg := rs_lk2 (i := 93) rfl rfl
theorem wl_L_31 : Cond.methodLink RL 31 yX4_rule ∈ rs_wg := rs_lk2 (i := 94) rfl rfl
theorem wi_yX4_rule : Cond.instanceMethod yX4_rule ∈ rs_wg := rs_lk2 (i := 95) rfl rfl
theorem wx_yX4_rule : Cond.selects RX4 yX4_rule yX4_rule ∈ rs_wg := rs_lk2 (i := 96) rfl rfl
theorem wc_yX4_rule : Cond.code yX4_rule cX4_rule 2 (some FieldType.int) ∈ rs_wg := rs_lk2 (i := 97) rfl rfl
theorem wl_X4_80 : Cond.methodLink RX4 80 yX1_shine ∈ rs_wg := rs_lk2 (i := 98) rfl rfl
theorem wi_yX1_shine : Cond.instanceMethod yX1_shine ∈ rs_wg := rs_lk2 (i := 99) rfl rfl
theorem wx_yX1_shine : Cond.selects RX1 yX1_shine yX1_shine ∈ rs_wg := rs_lk2 (i := 100) rfl rfl
theorem wc_yX1_shine : Cond.code yX1_shine cX1_shine 1 (some FieldType.int) ∈ rs_wg := rs_lk2 (i := 101) rfl rfl
theorem wl_X1_70 : Cond.methodLink RX1 70 yX1_lightIn ∈ rs_wg := rs_lk2 (i := 102) rfl rfl
theorem wi_yX1_lightIn : Cond.instanceMethod yX1_lightIn ∈ rs_wg := rs_lk2 (i := 104) rfl rfl
theorem wc_yX1_lightIn : Cond.code yX1_lightIn cX1_lightIn 5 (some FieldType.int) ∈ rs_wg := rs_lk2 (i := 105) rfl rfl
theorem wl_X1_74 : Cond.methodLink RX1 74 yX0_gives ∈ rs_wg := rs_lk2 (i := 106) rfl rfl
theorem wi_yX0_gives : Cond.instanceMethod yX0_gives ∈ rs_wg := rs_lk2 (i := 107) rfl rfl
theorem wx_yX0_gives : Cond.selects RX0 yX0_gives yX0_gives ∈ rs_wg := rs_lk2 (i := 108) rfl rfl
theorem wc_yX0_gives : Cond.code yX0_gives cX0_gives 7 (some FieldType.int) ∈ rs_wg := rs_lk2 (i := 109) rfl rfl
theorem wl_L_35 : Cond.methodLink RL 35 yX4_lamp ∈ rs_wg := rs_lk2 (i := 110) rfl rfl
theorem wi_yX4_lamp : Cond.instanceMethod yX4_lamp ∈ rs_wg := rs_lk2 (i := 111) rfl rfl
theorem wx_yX4_lamp : Cond.selects RX4 yX4_lamp yX4_lamp ∈ rs_wg := rs_lk2 (i := 112) rfl rfl
theorem wc_yX4_lamp : Cond.code yX4_lamp cX4_lamp 4 (some FieldType.int) ∈ rs_wg := rs_lk2 (i := 113) rfl rfl
theorem wl_X4_84 : Cond.methodLink RX4 84 yX1_lampAt ∈ rs_wg := rs_lk2 (i := 114) rfl rfl
theorem wi_yX1_lampAt : Cond.instanceMethod yX1_lampAt ∈ rs_wg := rs_lk2 (i := 115) rfl rfl
theorem wx_yX1_lampAt : Cond.selects RX1 yX1_lampAt yX1_lampAt ∈ rs_wg := rs_lk2 (i := 116) rfl rfl
theorem wc_yX1_lampAt : Cond.code yX1_lampAt cX1_lampAt 2 (some (FieldType.object "RowShutter$Lamp")) ∈ rs_wg := rs_lk2 (i := 117) rfl rfl
theorem wl_X4_93 : Cond.methodLink RX4 93 yX0_gives ∈ rs_wg := rs_lk2 (i := 118) rfl rfl
theorem wl_L_40 : Cond.methodLink RL 40 yX4_row ∈ rs_wg := rs_lk2 (i := 119) rfl rfl
theorem wi_yX4_row : Cond.instanceMethod yX4_row ∈ rs_wg := rs_lk2 (i := 120) rfl rfl
theorem wx_yX4_row : Cond.selects RX4 yX4_row yX4_row ∈ rs_wg := rs_lk2 (i := 121) rfl rfl
theorem wc_yX4_row : Cond.code yX4_row cX4_row 2 (some FieldType.int) ∈ rs_wg := rs_lk2 (i := 122) rfl rfl
theorem wl_L_44 : Cond.methodLink RL 44 yX4_alter ∈ rs_wg := rs_lk2 (i := 123) rfl rfl
theorem wi_yX4_alter : Cond.instanceMethod yX4_alter ∈ rs_wg := rs_lk2 (i := 124) rfl rfl
theorem wx_yX4_alter : Cond.selects RX4 yX4_alter yX4_alter ∈ rs_wg := rs_lk2 (i := 125) rfl rfl
theorem wc_yX4_alter : Cond.code yX4_alter cX4_alter 6 (some FieldType.int) ∈ rs_wg := rs_lk2 (i := 126) rfl rfl
theorem wl_X4_103 : Cond.methodLink RX4 103 yX4_isPart ∈ rs_wg := rs_lk2 (i := 127) rfl rfl
theorem wl_X4_107 : Cond.methodLink RX4 107 yX0_become ∈ rs_wg := rs_lk2 (i := 128) rfl rfl
theorem wl_L_49 : Cond.methodLink RL 49 yX4_tell ∈ rs_wg := rs_lk2 (i := 129) rfl rfl
theorem wi_yX4_tell : Cond.instanceMethod yX4_tell ∈ rs_wg := rs_lk2 (i := 130) rfl rfl
theorem wx_yX4_tell : Cond.selects RX4 yX4_tell yX4_tell ∈ rs_wg := rs_lk2 (i := 131) rfl rfl
theorem wc_yX4_tell : Cond.code yX4_tell cX4_tell 4 (some FieldType.int) ∈ rs_wg := rs_lk2 (i := 132) rfl rfl
theorem wl_X4_111 : Cond.methodLink RX4 111 yX4_isRule ∈ rs_wg := rs_lk2 (i := 133) rfl rfl
theorem ws_yX4_isRule : Cond.static yX4_isRule ∈ rs_wg := rs_lk2 (i := 134) rfl rfl
theorem wc_yX4_isRule : Cond.code yX4_isRule cX4_isRule 2 (some FieldType.boolean) ∈ rs_wg := rs_lk2 (i := 135) rfl rfl
theorem wl_X4_148 : Cond.fieldLink RX4 148 "RowShutter" "RULE_LEAST" "[I" ∈ rs_wg := rs_lk2 (i := 136) rfl rfl
theorem wl_X4_151 : Cond.fieldLink RX4 151 "RowShutter" "RULE_MOST" "[I" ∈ rs_wg := rs_lk2 (i := 137) rfl rfl
theorem wl_L_53 : Cond.methodLink RL 53 yX4_put ∈ rs_wg := rs_lk2 (i := 138) rfl rfl
theorem wi_yX4_put : Cond.instanceMethod yX4_put ∈ rs_wg := rs_lk2 (i := 139) rfl rfl
theorem wx_yX4_put : Cond.selects RX4 yX4_put yX4_put ∈ rs_wg := rs_lk2 (i := 140) rfl rfl
theorem wc_yX4_put : Cond.code yX4_put cX4_put 4 (some FieldType.int) ∈ rs_wg := rs_lk2 (i := 141) rfl rfl
theorem wl_X4_114 : Cond.methodLink RX4 114 yX1_addLamp ∈ rs_wg := rs_lk2 (i := 142) rfl rfl
theorem wl_L_57 : Cond.methodLink RL 57 yX4_cut ∈ rs_wg := rs_lk2 (i := 143) rfl rfl
theorem wi_yX4_cut : Cond.instanceMethod yX4_cut ∈ rs_wg := rs_lk2 (i := 144) rfl rfl
theorem wx_yX4_cut : Cond.selects RX4 yX4_cut yX4_cut ∈ rs_wg := rs_lk2 (i := 145) rfl rfl
theorem wc_yX4_cut : Cond.code yX4_cut cX4_cut 3 (some FieldType.int) ∈ rs_wg := rs_lk2 (i := 146) rfl rfl
theorem wl_L_61 : Cond.methodLink RL 61 yX4_rest ∈ rs_wg := rs_lk2 (i := 147) rfl rfl
theorem wi_yX4_rest : Cond.instanceMethod yX4_rest ∈ rs_wg := rs_lk2 (i := 148) rfl rfl
theorem wx_yX4_rest : Cond.selects RX4 yX4_rest yX4_rest ∈ rs_wg := rs_lk2 (i := 149) rfl rfl
theorem wc_yX4_rest : Cond.code yX4_rest cX4_rest 2 (some FieldType.int) ∈ rs_wg := rs_lk2 (i := 150) rfl rfl
theorem wk_X4_118 : Cond.constant RX4 118 (100000) ∈ rs_wg := rs_lk2 (i := 151) rfl rfl
theorem wl_L_65 : Cond.methodLink RL 65 yX4_shoot ∈ rs_wg := rs_lk2 (i := 152) rfl rfl
theorem wi_yX4_shoot : Cond.instanceMethod yX4_shoot ∈ rs_wg := rs_lk2 (i := 153) rfl rfl
theorem wx_yX4_shoot : Cond.selects RX4 yX4_shoot yX4_shoot ∈ rs_wg := rs_lk2 (i := 154) rfl rfl
theorem wc_yX4_shoot : Cond.code yX4_shoot cX4_shoot 3 (some FieldType.int) ∈ rs_wg := rs_lk2 (i := 155) rfl rfl
theorem wl_X4_119 : Cond.methodLink RX4 119 yX1_startOf ∈ rs_wg := rs_lk2 (i := 156) rfl rfl
theorem wi_yX1_startOf : Cond.instanceMethod yX1_startOf ∈ rs_wg := rs_lk2 (i := 157) rfl rfl
theorem wx_yX1_startOf : Cond.selects RX1 yX1_startOf yX1_startOf ∈ rs_wg := rs_lk2 (i := 158) rfl rfl
theorem wc_yX1_startOf : Cond.code yX1_startOf cX1_startOf 2 (some FieldType.int) ∈ rs_wg := rs_lk2 (i := 159) rfl rfl
theorem wl_X4_123 : Cond.methodLink RX4 123 yX1_greatestBands ∈ rs_wg := rs_lk2 (i := 160) rfl rfl
theorem wi_yX1_greatestBands : Cond.instanceMethod yX1_greatestBands ∈ rs_wg := rs_lk2 (i := 161) rfl rfl
theorem wx_yX1_greatestBands : Cond.selects RX1 yX1_greatestBands yX1_greatestBands ∈ rs_wg := rs_lk2 (i := 162) rfl rfl
theorem wc_yX1_greatestBands : Cond.code yX1_greatestBands cX1_greatestBands 4 (some FieldType.int) ∈ rs_wg := rs_lk2 (i := 163) rfl rfl
theorem wl_X1_92 : Cond.methodLink RX1 92 yX1_bands ∈ rs_wg := rs_lk2 (i := 164) rfl rfl
theorem wi_yX1_bands : Cond.instanceMethod yX1_bands ∈ rs_wg := rs_lk2 (i := 165) rfl rfl
theorem wx_yX1_bands : Cond.selects RX1 yX1_bands yX1_bands ∈ rs_wg := rs_lk2 (i := 166) rfl rfl
theorem wc_yX1_bands : Cond.code yX1_bands cX1_bands 6 (some FieldType.int) ∈ rs_wg := rs_lk2 (i := 167) rfl rfl
theorem wl_X1_86 : Cond.methodLink RX1 86 yX1_bright ∈ rs_wg := rs_lk2 (i := 168) rfl rfl
theorem wi_yX1_bright : Cond.instanceMethod yX1_bright ∈ rs_wg := rs_lk2 (i := 169) rfl rfl
theorem wx_yX1_bright : Cond.selects RX1 yX1_bright yX1_bright ∈ rs_wg := rs_lk2 (i := 170) rfl rfl
theorem wc_yX1_bright : Cond.code yX1_bright cX1_bright 3 (some FieldType.int) ∈ rs_wg := rs_lk2 (i := 171) rfl rfl
theorem wl_X1_77 : Cond.methodLink RX1 77 yX1_startOf ∈ rs_wg := rs_lk2 (i := 172) rfl rfl
theorem wl_X1_81 : Cond.methodLink RX1 81 Lib.Math.min.name ∈ rs_wg := rs_lk2 (i := 173) rfl rfl
theorem ws_Lib_Math_min_name : Cond.static Lib.Math.min.name ∈ rs_wg := rs_lk2 (i := 174) rfl rfl
theorem wc_Lib_Math_min_name : Cond.code Lib.Math.min.name prog_9_method_69_code 2 (some FieldType.int) ∈ rs_wg := rs_lk2 (i := 175) rfl rfl
theorem wl_X1_89 : Cond.methodLink RX1 89 Lib.Math.max.name ∈ rs_wg := rs_lk2 (i := 176) rfl rfl
theorem ws_Lib_Math_max_name : Cond.static Lib.Math.max.name ∈ rs_wg := rs_lk2 (i := 177) rfl rfl
theorem wc_Lib_Math_max_name : Cond.code Lib.Math.max.name prog_9_method_65_code 2 (some FieldType.int) ∈ rs_wg := rs_lk2 (i := 178) rfl rfl
theorem wl_X4_126 : Cond.methodLink RX4 126 yX1_take ∈ rs_wg := rs_lk2 (i := 179) rfl rfl
theorem wi_yX1_take : Cond.instanceMethod yX1_take ∈ rs_wg := rs_lk2 (i := 180) rfl rfl
theorem wx_yX1_take : Cond.selects RX1 yX1_take yX1_take ∈ rs_wg := rs_lk2 (i := 181) rfl rfl
theorem wc_yX1_take : Cond.code yX1_take cX1_take 3 none ∈ rs_wg := rs_lk2 (i := 182) rfl rfl
theorem wl_L_69 : Cond.methodLink RL 69 yX4_runs ∈ rs_wg := rs_lk2 (i := 183) rfl rfl
theorem wi_yX4_runs : Cond.instanceMethod yX4_runs ∈ rs_wg := rs_lk2 (i := 184) rfl rfl
theorem wx_yX4_runs : Cond.selects RX4 yX4_runs yX4_runs ∈ rs_wg := rs_lk2 (i := 185) rfl rfl
theorem wc_yX4_runs : Cond.code yX4_runs cX4_runs 3 (some FieldType.int) ∈ rs_wg := rs_lk2 (i := 186) rfl rfl
theorem wl_X4_130 : Cond.methodLink RX4 130 yX1_leastBands ∈ rs_wg := rs_lk2 (i := 187) rfl rfl
theorem wi_yX1_leastBands : Cond.instanceMethod yX1_leastBands ∈ rs_wg := rs_lk2 (i := 188) rfl rfl
theorem wx_yX1_leastBands : Cond.selects RX1 yX1_leastBands yX1_leastBands ∈ rs_wg := rs_lk2 (i := 189) rfl rfl
theorem wc_yX1_leastBands : Cond.code yX1_leastBands cX1_leastBands 4 (some FieldType.int) ∈ rs_wg := rs_lk2 (i := 190) rfl rfl
theorem wl_X4_133 : Cond.methodLink RX4 133 yX1_lightOfShots ∈ rs_wg := rs_lk2 (i := 191) rfl rfl
theorem wi_yX1_lightOfShots : Cond.instanceMethod yX1_lightOfShots ∈ rs_wg := rs_lk2 (i := 192) rfl rfl
theorem wx_yX1_lightOfShots : Cond.selects RX1 yX1_lightOfShots yX1_lightOfShots ∈ rs_wg := rs_lk2 (i := 193) rfl rfl
theorem wc_yX1_lightOfShots : Cond.code yX1_lightOfShots cX1_lightOfShots 4 (some FieldType.int) ∈ rs_wg := rs_lk2 (i := 194) rfl rfl
theorem wl_X1_95 : Cond.methodLink RX1 95 yX1_lightOf ∈ rs_wg := rs_lk2 (i := 195) rfl rfl
theorem wi_yX1_lightOf : Cond.instanceMethod yX1_lightOf ∈ rs_wg := rs_lk2 (i := 196) rfl rfl
theorem wx_yX1_lightOf : Cond.selects RX1 yX1_lightOf yX1_lightOf ∈ rs_wg := rs_lk2 (i := 197) rfl rfl
theorem wc_yX1_lightOf : Cond.code yX1_lightOf cX1_lightOf 4 (some FieldType.int) ∈ rs_wg := rs_lk2 (i := 198) rfl rfl
theorem wl_X4_136 : Cond.methodLink RX4 136 yX1_fullRows ∈ rs_wg := rs_lk2 (i := 199) rfl rfl
theorem wi_yX1_fullRows : Cond.instanceMethod yX1_fullRows ∈ rs_wg := rs_lk2 (i := 200) rfl rfl
theorem wx_yX1_fullRows : Cond.selects RX1 yX1_fullRows yX1_fullRows ∈ rs_wg := rs_lk2 (i := 201) rfl rfl
theorem wc_yX1_fullRows : Cond.code yX1_fullRows cX1_fullRows 5 (some FieldType.int) ∈ rs_wg := rs_lk2 (i := 202) rfl rfl
theorem wl_L_73 : Cond.methodLink RL 73 yX4_ahead ∈ rs_wg := rs_lk2 (i := 203) rfl rfl
theorem wi_yX4_ahead : Cond.instanceMethod yX4_ahead ∈ rs_wg := rs_lk2 (i := 204) rfl rfl
theorem wx_yX4_ahead : Cond.selects RX4 yX4_ahead yX4_ahead ∈ rs_wg := rs_lk2 (i := 205) rfl rfl
theorem wc_yX4_ahead : Cond.code yX4_ahead cX4_ahead 3 (some FieldType.int) ∈ rs_wg := rs_lk2 (i := 206) rfl rfl
theorem wl_X4_139 : Cond.methodLink RX4 139 yX1_bright ∈ rs_wg := rs_lk2 (i := 207) rfl rfl
theorem wl_L_77 : Cond.methodLink RL 77 yX4_when ∈ rs_wg := rs_lk2 (i := 208) rfl rfl
theorem wi_yX4_when : Cond.instanceMethod yX4_when ∈ rs_wg := rs_lk2 (i := 209) rfl rfl
theorem wx_yX4_when : Cond.selects RX4 yX4_when yX4_when ∈ rs_wg := rs_lk2 (i := 210) rfl rfl
theorem wc_yX4_when : Cond.code yX4_when cX4_when 3 (some FieldType.int) ∈ rs_wg := rs_lk2 (i := 211) rfl rfl
theorem wl_X4_142 : Cond.methodLink RX4 142 yX1_bands ∈ rs_wg := rs_lk2 (i := 212) rfl rfl
theorem wl_L_81 : Cond.methodLink RL 81 yX4_again ∈ rs_wg := rs_lk2 (i := 213) rfl rfl
theorem wi_yX4_again : Cond.instanceMethod yX4_again ∈ rs_wg := rs_lk2 (i := 214) rfl rfl
theorem wx_yX4_again : Cond.selects RX4 yX4_again yX4_again ∈ rs_wg := rs_lk2 (i := 215) rfl rfl
theorem wc_yX4_again : Cond.code yX4_again cX4_again 2 (some FieldType.int) ∈ rs_wg := rs_lk2 (i := 216) rfl rfl
theorem wl_X4_145 : Cond.methodLink RX4 145 yX1_isLikeFirst ∈ rs_wg := rs_lk2 (i := 217) rfl rfl
theorem wi_yX1_isLikeFirst : Cond.instanceMethod yX1_isLikeFirst ∈ rs_wg := rs_lk2 (i := 218) rfl rfl
theorem wx_yX1_isLikeFirst : Cond.selects RX1 yX1_isLikeFirst yX1_isLikeFirst ∈ rs_wg := rs_lk2 (i := 219) rfl rfl
theorem wc_yX1_isLikeFirst : Cond.code yX1_isLikeFirst cX1_isLikeFirst 3 (some FieldType.boolean) ∈ rs_wg := rs_lk2 (i := 220) rfl rfl
theorem wl_L_85 : Cond.methodLink RL 85 yX4_best ∈ rs_wg := rs_lk2 (i := 221) rfl rfl
theorem wi_yX4_best : Cond.instanceMethod yX4_best ∈ rs_wg := rs_lk2 (i := 222) rfl rfl
theorem wx_yX4_best : Cond.selects RX4 yX4_best yX4_best ∈ rs_wg := rs_lk2 (i := 223) rfl rfl
theorem wc_yX4_best : Cond.code yX4_best cX4_best 8 (some FieldType.int) ∈ rs_wg := rs_lk2 (i := 224) rfl rfl
theorem wl_L_89 : Cond.methodLink RL 89 yX4_kind ∈ rs_wg := rs_lk2 (i := 225) rfl rfl
theorem wi_yX4_kind : Cond.instanceMethod yX4_kind ∈ rs_wg := rs_lk2 (i := 226) rfl rfl
theorem wx_yX4_kind : Cond.selects RX4 yX4_kind yX4_kind ∈ rs_wg := rs_lk2 (i := 227) rfl rfl
theorem wc_yX4_kind : Cond.code yX4_kind cX4_kind 4 (some FieldType.int) ∈ rs_wg := rs_lk2 (i := 228) rfl rfl
theorem wl_X4_154 : Cond.methodLink RX4 154 yX4_bestPart ∈ rs_wg := rs_lk2 (i := 229) rfl rfl
theorem wi_yX4_bestPart : Cond.instanceMethod yX4_bestPart ∈ rs_wg := rs_lk2 (i := 231) rfl rfl
theorem wc_yX4_bestPart : Cond.code yX4_bestPart cX4_bestPart 9 (some FieldType.int) ∈ rs_wg := rs_lk2 (i := 232) rfl rfl
theorem wl_L_93 : Cond.methodLink RL 93 yX4_phase ∈ rs_wg := rs_lk2 (i := 233) rfl rfl
theorem wi_yX4_phase : Cond.instanceMethod yX4_phase ∈ rs_wg := rs_lk2 (i := 234) rfl rfl
theorem wx_yX4_phase : Cond.selects RX4 yX4_phase yX4_phase ∈ rs_wg := rs_lk2 (i := 235) rfl rfl
theorem wc_yX4_phase : Cond.code yX4_phase cX4_phase 4 (some FieldType.int) ∈ rs_wg := rs_lk2 (i := 236) rfl rfl
theorem wl_L_97 : Cond.methodLink RL 97 yX4_out ∈ rs_wg := rs_lk2 (i := 237) rfl rfl
theorem wi_yX4_out : Cond.instanceMethod yX4_out ∈ rs_wg := rs_lk2 (i := 238) rfl rfl
theorem wx_yX4_out : Cond.selects RX4 yX4_out yX4_out ∈ rs_wg := rs_lk2 (i := 239) rfl rfl
theorem wc_yX4_out : Cond.code yX4_out cX4_out 7 (some FieldType.int) ∈ rs_wg := rs_lk3 (i := 0) rfl rfl
theorem wl_X4_162 : Cond.methodLink RX4 162 yX0_putOut ∈ rs_wg := rs_lk3 (i := 1) rfl rfl
theorem wi_yX0_putOut : Cond.instanceMethod yX0_putOut ∈ rs_wg := rs_lk3 (i := 2) rfl rfl
theorem wx_yX0_putOut : Cond.selects RX0 yX0_putOut yX0_putOut ∈ rs_wg := rs_lk3 (i := 3) rfl rfl
theorem wc_yX0_putOut : Cond.code yX0_putOut cX0_putOut 1 none ∈ rs_wg := rs_lk3 (i := 4) rfl rfl
theorem wl_X0_31 : Cond.methodLink RX0 31 yJ7_fill_53178 ∈ rs_wg := rs_lk3 (i := 5) rfl rfl
theorem ws_yJ7_fill_53178 : Cond.static yJ7_fill_53178 ∈ rs_wg := rs_lk3 (i := 6) rfl rfl
theorem wc_yJ7_fill_53178 : Cond.code yJ7_fill_53178 cJ7_fill_53178 4 none ∈ rs_wg := rs_lk3 (i := 7) rfl rfl
theorem wl_X4_165 : Cond.methodLink RX4 165 yX0_copyFrom ∈ rs_wg := rs_lk3 (i := 8) rfl rfl
theorem wl_L_101 : Cond.methodLink RL 101 yX4_luck ∈ rs_wg := rs_lk3 (i := 9) rfl rfl
theorem wi_yX4_luck : Cond.instanceMethod yX4_luck ∈ rs_wg := rs_lk3 (i := 10) rfl rfl
theorem wx_yX4_luck : Cond.selects RX4 yX4_luck yX4_luck ∈ rs_wg := rs_lk3 (i := 11) rfl rfl
theorem wc_yX4_luck : Cond.code yX4_luck cX4_luck 12 (some FieldType.long) ∈ rs_wg := rs_lk3 (i := 12) rfl rfl
theorem wk_X4_168 : Cond.constantLong RX4 168 (-1) ∈ rs_wg := rs_lk3 (i := 13) rfl rfl
theorem wl_X4_170 : Cond.methodLink RX4 170 yX4_draftSteadyLamps ∈ rs_wg := rs_lk3 (i := 14) rfl rfl
theorem wi_yX4_draftSteadyLamps : Cond.instanceMethod yX4_draftSteadyLamps ∈ rs_wg := rs_lk3 (i := 16) rfl rfl
theorem wc_yX4_draftSteadyLamps : Cond.code yX4_draftSteadyLamps cX4_draftSteadyLamps 2 none ∈ rs_wg := rs_lk3 (i := 17) rfl rfl
theorem wk_X4_173 : Cond.constantLong RX4 173 (10) ∈ rs_wg := rs_lk3 (i := 18) rfl rfl
theorem wl_X4_175 : Cond.methodLink RX4 175 yX4_inLowestTerms ∈ rs_wg := rs_lk3 (i := 19) rfl rfl
theorem ws_yX4_inLowestTerms : Cond.static yX4_inLowestTerms ∈ rs_wg := rs_lk3 (i := 20) rfl rfl
theorem wc_yX4_inLowestTerms : Cond.code yX4_inLowestTerms cX4_inLowestTerms 12 (some FieldType.long) ∈ rs_wg := rs_lk3 (i := 21) rfl rfl
theorem wl_L_106 : Cond.methodLink RL 106 yX4_mean ∈ rs_wg := rs_lk3 (i := 22) rfl rfl
theorem wi_yX4_mean : Cond.instanceMethod yX4_mean ∈ rs_wg := rs_lk3 (i := 23) rfl rfl
theorem wx_yX4_mean : Cond.selects RX4 yX4_mean yX4_mean ∈ rs_wg := rs_lk3 (i := 24) rfl rfl
theorem wc_yX4_mean : Cond.code yX4_mean cX4_mean 8 (some FieldType.long) ∈ rs_wg := rs_lk3 (i := 25) rfl rfl
theorem wl_L_111 : Cond.methodLink RL 111 yX4_see ∈ rs_wg := rs_lk3 (i := 26) rfl rfl
theorem wi_yX4_see : Cond.instanceMethod yX4_see ∈ rs_wg := rs_lk3 (i := 27) rfl rfl
theorem wx_yX4_see : Cond.selects RX4 yX4_see yX4_see ∈ rs_wg := rs_lk3 (i := 28) rfl rfl
theorem wc_yX4_see : Cond.code yX4_see cX4_see 4 (some FieldType.int) ∈ rs_wg := rs_lk3 (i := 29) rfl rfl
theorem wl_X4_179 : Cond.methodLink RX4 179 yX1_addSeen ∈ rs_wg := rs_lk3 (i := 30) rfl rfl
theorem wi_yX1_addSeen : Cond.instanceMethod yX1_addSeen ∈ rs_wg := rs_lk3 (i := 31) rfl rfl
theorem wx_yX1_addSeen : Cond.selects RX1 yX1_addSeen yX1_addSeen ∈ rs_wg := rs_lk3 (i := 32) rfl rfl
theorem wc_yX1_addSeen : Cond.code yX1_addSeen cX1_addSeen 4 (some FieldType.boolean) ∈ rs_wg := rs_lk3 (i := 33) rfl rfl
theorem wl_L_115 : Cond.methodLink RL 115 yX4_forget ∈ rs_wg := rs_lk3 (i := 34) rfl rfl
theorem wi_yX4_forget : Cond.instanceMethod yX4_forget ∈ rs_wg := rs_lk3 (i := 35) rfl rfl
theorem wx_yX4_forget : Cond.selects RX4 yX4_forget yX4_forget ∈ rs_wg := rs_lk3 (i := 36) rfl rfl
theorem wc_yX4_forget : Cond.code yX4_forget cX4_forget 3 (some FieldType.int) ∈ rs_wg := rs_lk3 (i := 37) rfl rfl
theorem wl_L_119 : Cond.methodLink RL 119 yX4_kinds ∈ rs_wg := rs_lk3 (i := 38) rfl rfl
theorem wi_yX4_kinds : Cond.instanceMethod yX4_kinds ∈ rs_wg := rs_lk3 (i := 39) rfl rfl
theorem wx_yX4_kinds : Cond.selects RX4 yX4_kinds yX4_kinds ∈ rs_wg := rs_lk3 (i := 40) rfl rfl
theorem wc_yX4_kinds : Cond.code yX4_kinds cX4_kinds 2 (some FieldType.int) ∈ rs_wg := rs_lk3 (i := 41) rfl rfl
theorem wl_X4_185 : Cond.methodLink RX4 185 yX4_fitting ∈ rs_wg := rs_lk3 (i := 42) rfl rfl
theorem wi_yX4_fitting : Cond.instanceMethod yX4_fitting ∈ rs_wg := rs_lk3 (i := 44) rfl rfl
theorem wc_yX4_fitting : Cond.code yX4_fitting cX4_fitting 5 (some FieldType.int) ∈ rs_wg := rs_lk3 (i := 45) rfl rfl
theorem wl_X4_243 : Cond.methodLink RX4 243 yX1_isAsSeen ∈ rs_wg := rs_lk3 (i := 46) rfl rfl
theorem wi_yX1_isAsSeen : Cond.instanceMethod yX1_isAsSeen ∈ rs_wg := rs_lk3 (i := 47) rfl rfl
theorem wx_yX1_isAsSeen : Cond.selects RX1 yX1_isAsSeen yX1_isAsSeen ∈ rs_wg := rs_lk3 (i := 48) rfl rfl
theorem wc_yX1_isAsSeen : Cond.code yX1_isAsSeen cX1_isAsSeen 2 (some FieldType.boolean) ∈ rs_wg := rs_lk3 (i := 49) rfl rfl
theorem wl_L_123 : Cond.methodLink RL 123 yX4_phases ∈ rs_wg := rs_lk3 (i := 50) rfl rfl
theorem wi_yX4_phases : Cond.instanceMethod yX4_phases ∈ rs_wg := rs_lk3 (i := 51) rfl rfl
theorem wx_yX4_phases : Cond.selects RX4 yX4_phases yX4_phases ∈ rs_wg := rs_lk3 (i := 52) rfl rfl
theorem wc_yX4_phases : Cond.code yX4_phases cX4_phases 2 (some FieldType.int) ∈ rs_wg := rs_lk3 (i := 53) rfl rfl
theorem wl_L_127 : Cond.methodLink RL 127 yX4_ask ∈ rs_wg := rs_lk3 (i := 54) rfl rfl
theorem wi_yX4_ask : Cond.instanceMethod yX4_ask ∈ rs_wg := rs_lk3 (i := 55) rfl rfl
theorem wx_yX4_ask : Cond.selects RX4 yX4_ask yX4_ask ∈ rs_wg := rs_lk3 (i := 56) rfl rfl
theorem wc_yX4_ask : Cond.code yX4_ask cX4_ask 9 (some FieldType.int) ∈ rs_wg := rs_lk3 (i := 57) rfl rfl
theorem wl_X4_188 : Cond.methodLink RX4 188 yJ6_bitCount_0f7a4 ∈ rs_wg := rs_lk3 (i := 58) rfl rfl
theorem ws_yJ6_bitCount_0f7a4 : Cond.static yJ6_bitCount_0f7a4 ∈ rs_wg := rs_lk3 (i := 59) rfl rfl
theorem wc_yJ6_bitCount_0f7a4 : Cond.code yJ6_bitCount_0f7a4 cJ6_bitCount_0f7a4 1 (some FieldType.int) ∈ rs_wg := rs_lk3 (i := 60) rfl rfl
theorem wk_J6_265 : Cond.constant RJ6 265 (1431655765) ∈ rs_wg := rs_lk3 (i := 61) rfl rfl
theorem wk_J6_266 : Cond.constant RJ6 266 (858993459) ∈ rs_wg := rs_lk3 (i := 62) rfl rfl
theorem wk_J6_267 : Cond.constant RJ6 267 (252645135) ∈ rs_wg := rs_lk3 (i := 63) rfl rfl
theorem wl_X4_193 : Cond.methodLink RX4 193 yX4_mostAlike ∈ rs_wg := rs_lk3 (i := 64) rfl rfl
theorem wi_yX4_mostAlike : Cond.instanceMethod yX4_mostAlike ∈ rs_wg := rs_lk3 (i := 66) rfl rfl
theorem wc_yX4_mostAlike : Cond.code yX4_mostAlike cX4_mostAlike 9 (some FieldType.int) ∈ rs_wg := rs_lk3 (i := 67) rfl rfl
theorem wl_X4_197 : Cond.methodLink RX4 197 Lib.Math.max.name ∈ rs_wg := rs_lk3 (i := 68) rfl rfl
theorem wl_L_131 : Cond.methodLink RL 131 yX4_drift ∈ rs_wg := rs_lk3 (i := 69) rfl rfl
theorem wi_yX4_drift : Cond.instanceMethod yX4_drift ∈ rs_wg := rs_lk3 (i := 70) rfl rfl
theorem wx_yX4_drift : Cond.selects RX4 yX4_drift yX4_drift ∈ rs_wg := rs_lk3 (i := 71) rfl rfl
theorem wc_yX4_drift : Cond.code yX4_drift cX4_drift 9 (some FieldType.int) ∈ rs_wg := rs_lk3 (i := 72) rfl rfl
theorem wk_X4_196 : Cond.constant RX4 196 (1103515245) ∈ rs_wg := rs_lk3 (i := 73) rfl rfl
theorem wl_X4_202 : Cond.methodLink RX4 202 yX1_lightOf ∈ rs_wg := rs_lk3 (i := 74) rfl rfl
theorem wl_L_135 : Cond.methodLink RL 135 yX4_keep ∈ rs_wg := rs_lk3 (i := 75) rfl rfl
theorem wi_yX4_keep : Cond.instanceMethod yX4_keep ∈ rs_wg := rs_lk3 (i := 76) rfl rfl
theorem wx_yX4_keep : Cond.selects RX4 yX4_keep yX4_keep ∈ rs_wg := rs_lk3 (i := 77) rfl rfl
theorem wc_yX4_keep : Cond.code yX4_keep cX4_keep 3 (some FieldType.int) ∈ rs_wg := rs_lk3 (i := 78) rfl rfl
theorem wl_L_139 : Cond.methodLink RL 139 yX4_back ∈ rs_wg := rs_lk3 (i := 79) rfl rfl
theorem wi_yX4_back : Cond.instanceMethod yX4_back ∈ rs_wg := rs_lk3 (i := 80) rfl rfl
theorem wx_yX4_back : Cond.selects RX4 yX4_back yX4_back ∈ rs_wg := rs_lk3 (i := 81) rfl rfl
theorem wc_yX4_back : Cond.code yX4_back cX4_back 2 (some FieldType.int) ∈ rs_wg := rs_lk3 (i := 82) rfl rfl
theorem wl_L_143 : Cond.methodLink RL 143 yX4_sheet ∈ rs_wg := rs_lk3 (i := 83) rfl rfl
theorem wi_yX4_sheet : Cond.instanceMethod yX4_sheet ∈ rs_wg := rs_lk3 (i := 84) rfl rfl
theorem wx_yX4_sheet : Cond.selects RX4 yX4_sheet yX4_sheet ∈ rs_wg := rs_lk3 (i := 85) rfl rfl
theorem wc_yX4_sheet : Cond.code yX4_sheet cX4_sheet 4 (some FieldType.int) ∈ rs_wg := rs_lk3 (i := 86) rfl rfl
theorem wl_X4_205 : Cond.methodLink RX4 205 yX2_renew ∈ rs_wg := rs_lk3 (i := 87) rfl rfl
theorem wi_yX2_renew : Cond.instanceMethod yX2_renew ∈ rs_wg := rs_lk3 (i := 88) rfl rfl
theorem wx_yX2_renew : Cond.selects RX2 yX2_renew yX2_renew ∈ rs_wg := rs_lk3 (i := 89) rfl rfl
theorem wc_yX2_renew : Cond.code yX2_renew cX2_renew 3 none ∈ rs_wg := rs_lk3 (i := 90) rfl rfl
theorem wl_X2_19 : Cond.methodLink RX2 19 yJ7_fill_53178 ∈ rs_wg := rs_lk3 (i := 91) rfl rfl
theorem wl_L_147 : Cond.methodLink RL 147 yX4_lay ∈ rs_wg := rs_lk3 (i := 92) rfl rfl
theorem wi_yX4_lay : Cond.instanceMethod yX4_lay ∈ rs_wg := rs_lk3 (i := 93) rfl rfl
theorem wx_yX4_lay : Cond.selects RX4 yX4_lay yX4_lay ∈ rs_wg := rs_lk3 (i := 94) rfl rfl
theorem wc_yX4_lay : Cond.code yX4_lay cX4_lay 5 (some FieldType.int) ∈ rs_wg := rs_lk3 (i := 95) rfl rfl
theorem wl_X4_208 : Cond.methodLink RX4 208 yX2_faultAt ∈ rs_wg := rs_lk3 (i := 96) rfl rfl
theorem wi_yX2_faultAt : Cond.instanceMethod yX2_faultAt ∈ rs_wg := rs_lk3 (i := 97) rfl rfl
theorem wx_yX2_faultAt : Cond.selects RX2 yX2_faultAt yX2_faultAt ∈ rs_wg := rs_lk3 (i := 98) rfl rfl
theorem wc_yX2_faultAt : Cond.code yX2_faultAt cX2_faultAt 2 (some FieldType.int) ∈ rs_wg := rs_lk3 (i := 99) rfl rfl
theorem wl_X4_211 : Cond.methodLink RX4 211 yX2_store ∈ rs_wg := rs_lk3 (i := 100) rfl rfl
theorem wi_yX2_store : Cond.instanceMethod yX2_store ∈ rs_wg := rs_lk3 (i := 101) rfl rfl
theorem wx_yX2_store : Cond.selects RX2 yX2_store yX2_store ∈ rs_wg := rs_lk3 (i := 102) rfl rfl
theorem wc_yX2_store : Cond.code yX2_store cX2_store 3 none ∈ rs_wg := rs_lk3 (i := 103) rfl rfl
theorem wl_X2_28 : Cond.methodLink RX2 28 yX2_faultAt ∈ rs_wg := rs_lk3 (i := 104) rfl rfl
theorem wl_L_151 : Cond.methodLink RL 151 yX4_read ∈ rs_wg := rs_lk3 (i := 105) rfl rfl
theorem wi_yX4_read : Cond.instanceMethod yX4_read ∈ rs_wg := rs_lk3 (i := 106) rfl rfl
theorem wx_yX4_read : Cond.selects RX4 yX4_read yX4_read ∈ rs_wg := rs_lk3 (i := 107) rfl rfl
theorem wc_yX4_read : Cond.code yX4_read cX4_read 10 (some FieldType.int) ∈ rs_wg := rs_lk3 (i := 108) rfl rfl
theorem wl_X4_214 : Cond.methodLink RX4 214 yX2_faultOfPair ∈ rs_wg := rs_lk3 (i := 109) rfl rfl
theorem wi_yX2_faultOfPair : Cond.instanceMethod yX2_faultOfPair ∈ rs_wg := rs_lk3 (i := 110) rfl rfl
theorem wx_yX2_faultOfPair : Cond.selects RX2 yX2_faultOfPair yX2_faultOfPair ∈ rs_wg := rs_lk3 (i := 111) rfl rfl
theorem wc_yX2_faultOfPair : Cond.code yX2_faultOfPair cX2_faultOfPair 4 (some FieldType.int) ∈ rs_wg := rs_lk3 (i := 112) rfl rfl
theorem wl_X4_217 : Cond.methodLink RX4 217 yX4_isPhaseOfLamp ∈ rs_wg := rs_lk3 (i := 113) rfl rfl
theorem wi_yX4_isPhaseOfLamp : Cond.instanceMethod yX4_isPhaseOfLamp ∈ rs_wg := rs_lk3 (i := 115) rfl rfl
theorem wc_yX4_isPhaseOfLamp : Cond.code yX4_isPhaseOfLamp cX4_isPhaseOfLamp 3 (some FieldType.boolean) ∈ rs_wg := rs_lk3 (i := 116) rfl rfl
theorem wl_X4_224 : Cond.methodLink RX4 224 yX4_takePhases ∈ rs_wg := rs_lk3 (i := 117) rfl rfl
theorem wi_yX4_takePhases : Cond.instanceMethod yX4_takePhases ∈ rs_wg := rs_lk3 (i := 119) rfl rfl
theorem wc_yX4_takePhases : Cond.code yX4_takePhases cX4_takePhases 6 none ∈ rs_wg := rs_lk3 (i := 120) rfl rfl
theorem wl_L_156 : Cond.methodLink RL 156 yX4_torn ∈ rs_wg := rs_lk3 (i := 121) rfl rfl
theorem wi_yX4_torn : Cond.instanceMethod yX4_torn ∈ rs_wg := rs_lk3 (i := 122) rfl rfl
theorem wx_yX4_torn : Cond.selects RX4 yX4_torn yX4_torn ∈ rs_wg := rs_lk3 (i := 123) rfl rfl
theorem wc_yX4_torn : Cond.code yX4_torn cX4_torn 1 (some FieldType.int) ∈ rs_wg := rs_lk3 (i := 124) rfl rfl
theorem wl_L_160 : Cond.methodLink RL 160 yX4_count ∈ rs_wg := rs_lk3 (i := 125) rfl rfl
theorem wi_yX4_count : Cond.instanceMethod yX4_count ∈ rs_wg := rs_lk3 (i := 126) rfl rfl
theorem wx_yX4_count : Cond.selects RX4 yX4_count yX4_count ∈ rs_wg := rs_lk3 (i := 127) rfl rfl
theorem wc_yX4_count : Cond.code yX4_count cX4_count 2 (some FieldType.int) ∈ rs_wg := rs_lk3 (i := 128) rfl rfl
theorem wl_X4_234 : Cond.methodLink RX4 234 yX1_sumOfPart ∈ rs_wg := rs_lk3 (i := 129) rfl rfl
theorem wi_yX1_sumOfPart : Cond.instanceMethod yX1_sumOfPart ∈ rs_wg := rs_lk3 (i := 130) rfl rfl
theorem wx_yX1_sumOfPart : Cond.selects RX1 yX1_sumOfPart yX1_sumOfPart ∈ rs_wg := rs_lk3 (i := 131) rfl rfl
theorem wc_yX1_sumOfPart : Cond.code yX1_sumOfPart cX1_sumOfPart 4 (some FieldType.int) ∈ rs_wg := rs_lk3 (i := 132) rfl rfl
theorem wq_L_10 : Cond.classLink RL 10 RX5 ∈ rs_wg := rs_lk3 (i := 133) rfl rfl
theorem wj_X5 : Cond.instantiable RX5 34 ∈ rs_wg := rs_lk3 (i := 134) rfl rfl
theorem wl_L_12 : Cond.methodLink RL 12 yX5_init ∈ rs_wg := rs_lk3 (i := 135) rfl rfl
theorem wi_yX5_init : Cond.instanceMethod yX5_init ∈ rs_wg := rs_lk3 (i := 136) rfl rfl
theorem wc_yX5_init : Cond.code yX5_init cX5_init 2 none ∈ rs_wg := rs_lk3 (i := 137) rfl rfl
theorem wl_X5_1 : Cond.methodLink RX5 1 objectInit ∈ rs_wg := rs_lk3 (i := 138) rfl rfl
theorem wl_X5_53 : Cond.methodLink RX5 53 yX5_firstDraft ∈ rs_wg := rs_lk3 (i := 139) rfl rfl
theorem wi_yX5_firstDraft : Cond.instanceMethod yX5_firstDraft ∈ rs_wg := rs_lk3 (i := 141) rfl rfl
theorem wc_yX5_firstDraft : Cond.code yX5_firstDraft cX5_firstDraft 2 none ∈ rs_wg := rs_lk3 (i := 142) rfl rfl
theorem wl_X5_56 : Cond.methodLink RX5 56 yX5_keepDraft ∈ rs_wg := rs_lk3 (i := 143) rfl rfl
theorem wi_yX5_keepDraft : Cond.instanceMethod yX5_keepDraft ∈ rs_wg := rs_lk3 (i := 145) rfl rfl
theorem wc_yX5_keepDraft : Cond.code yX5_keepDraft cX5_keepDraft 2 none ∈ rs_wg := rs_lk3 (i := 146) rfl rfl
theorem wl_X5_7 : Cond.fieldLink RX5 7 "RowShutterModel" "st" "[I" ∈ rs_wg := rs_lk3 (i := 147) rfl rfl
theorem wl_X5_13 : Cond.fieldLink RX5 13 "RowShutterModel" "now" "[I" ∈ rs_wg := rs_lk3 (i := 148) rfl rfl
theorem wl_X5_16 : Cond.fieldLink RX5 16 "RowShutterModel" "isKept" "[Z" ∈ rs_wg := rs_lk3 (i := 149) rfl rfl
theorem wl_X5_20 : Cond.fieldLink RX5 20 "RowShutterModel" "draft" "[I" ∈ rs_wg := rs_lk3 (i := 150) rfl rfl
theorem wl_X5_23 : Cond.fieldLink RX5 23 "RowShutterModel" "hasTold" "[Z" ∈ rs_wg := rs_lk3 (i := 151) rfl rfl
theorem wl_X5_26 : Cond.fieldLink RX5 26 "RowShutterModel" "tape" "[I" ∈ rs_wg := rs_lk3 (i := 152) rfl rfl
theorem wl_X5_65 : Cond.fieldLink RX5 65 "RowShutterModel" "taped" "I" ∈ rs_wg := rs_lk3 (i := 153) rfl rfl
theorem wl_X5_78 : Cond.fieldLink RX5 78 "RowShutterModel" "pos" "I" ∈ rs_wg := rs_lk3 (i := 154) rfl rfl
theorem wl_X5_72 : Cond.fieldLink RX5 72 "RowShutterModel" "begun" "I" ∈ rs_wg := rs_lk3 (i := 155) rfl rfl
theorem wl_X5_93 : Cond.fieldLink RX5 93 "RowShutterModel" "sort" "I" ∈ rs_wg := rs_lk3 (i := 156) rfl rfl
theorem wl_X5_104 : Cond.fieldLink RX5 104 "RowShutterModel" "value" "I" ∈ rs_wg := rs_lk3 (i := 157) rfl rfl
theorem wl_X5_69 : Cond.fieldLink RX5 69 "RowShutterModel" "fault" "I" ∈ rs_wg := rs_lk3 (i := 158) rfl rfl
theorem wl_X5_75 : Cond.fieldLink RX5 75 "RowShutterModel" "wrongAt" "I" ∈ rs_wg := rs_lk3 (i := 159) rfl rfl
theorem wl_X5_143 : Cond.fieldLink RX5 143 "RowShutterModel" "put0" "I" ∈ rs_wg := rs_lk3 (i := 160) rfl rfl
theorem wl_X5_146 : Cond.fieldLink RX5 146 "RowShutterModel" "isFailing" "Z" ∈ rs_wg := rs_lk3 (i := 161) rfl rfl
theorem wl_X5_150 : Cond.fieldLink RX5 150 "RowShutterModel" "widest" "I" ∈ rs_wg := rs_lk3 (i := 162) rfl rfl
theorem wl_X5_153 : Cond.fieldLink RX5 153 "RowShutterModel" "narrowest" "I" ∈ rs_wg := rs_lk3 (i := 163) rfl rfl
theorem wl_X5_156 : Cond.fieldLink RX5 156 "RowShutterModel" "brightSum" "I" ∈ rs_wg := rs_lk3 (i := 164) rfl rfl
theorem wl_X5_159 : Cond.fieldLink RX5 159 "RowShutterModel" "fullRows" "I" ∈ rs_wg := rs_lk3 (i := 165) rfl rfl
theorem wl_X5_178 : Cond.fieldLink RX5 178 "RowShutterModel" "bands" "I" ∈ rs_wg := rs_lk3 (i := 166) rfl rfl
theorem wl_X5_29 : Cond.fieldLink RX5 29 "RowShutterModel" "bright" "[I" ∈ rs_wg := rs_lk3 (i := 167) rfl rfl
theorem wl_X5_32 : Cond.fieldLink RX5 32 "RowShutterModel" "firstRows" "[I" ∈ rs_wg := rs_lk3 (i := 168) rfl rfl
theorem wl_X5_221 : Cond.fieldLink RX5 221 "RowShutterModel" "bestCode" "I" ∈ rs_wg := rs_lk3 (i := 169) rfl rfl
theorem wl_X5_224 : Cond.fieldLink RX5 224 "RowShutterModel" "bestMuch" "I" ∈ rs_wg := rs_lk3 (i := 170) rfl rfl
theorem wl_X5_249 : Cond.fieldLink RX5 249 "RowShutterModel" "evenSum" "J" ∈ rs_wg := rs_lk3 (i := 171) rfl rfl
theorem wl_X5_253 : Cond.fieldLink RX5 253 "RowShutterModel" "shineSum" "J" ∈ rs_wg := rs_lk3 (i := 172) rfl rfl
theorem wl_X5_256 : Cond.fieldLink RX5 256 "RowShutterModel" "allWays" "J" ∈ rs_wg := rs_lk3 (i := 173) rfl rfl
theorem wl_X5_35 : Cond.fieldLink RX5 35 "RowShutterModel" "brights" "[I" ∈ rs_wg := rs_lk3 (i := 174) rfl rfl
theorem wl_X5_38 : Cond.fieldLink RX5 38 "RowShutterModel" "byPhase" "[I" ∈ rs_wg := rs_lk3 (i := 175) rfl rfl
theorem wl_X5_41 : Cond.fieldLink RX5 41 "RowShutterModel" "lanes" "[I" ∈ rs_wg := rs_lk3 (i := 176) rfl rfl
theorem wl_X5_44 : Cond.fieldLink RX5 44 "RowShutterModel" "sizes" "[I" ∈ rs_wg := rs_lk3 (i := 177) rfl rfl
theorem wl_X5_47 : Cond.fieldLink RX5 47 "RowShutterModel" "cells" "[I" ∈ rs_wg := rs_lk3 (i := 178) rfl rfl
theorem wl_X5_295 : Cond.fieldLink RX5 295 "RowShutterModel" "torn" "I" ∈ rs_wg := rs_lk3 (i := 179) rfl rfl
theorem wl_X5_50 : Cond.fieldLink RX5 50 "RowShutterModel" "before" "[I" ∈ rs_wg := rs_lk3 (i := 180) rfl rfl
theorem wl_L_17 : Cond.methodLink RL 17 yX5_feed ∈ rs_wg := rs_lk4 (i := 10) rfl rfl
theorem wi_yX5_feed : Cond.instanceMethod yX5_feed ∈ rs_wg := rs_lk4 (i := 11) rfl rfl
theorem wx_yX5_feed : Cond.selects RX5 yX5_feed yX5_feed ∈ rs_wg := rs_lk4 (i := 12) rfl rfl
theorem wc_yX5_feed : Cond.code yX5_feed cX5_feed 2 (some FieldType.int) ∈ rs_wg := rs_lk4 (i := 13) rfl rfl
theorem wk_X5_59 : Cond.constantLong RX5 59 (127) ∈ rs_wg := rs_lk4 (i := 14) rfl rfl
theorem wl_X5_61 : Cond.methodLink RX5 61 yX5_in ∈ rs_wg := rs_lk4 (i := 15) rfl rfl
theorem ws_yX5_in : Cond.static yX5_in ∈ rs_wg := rs_lk4 (i := 16) rfl rfl
theorem wc_yX5_in : Cond.code yX5_in cX5_in 6 (some FieldType.boolean) ∈ rs_wg := rs_lk4 (i := 17) rfl rfl
theorem wl_L_21 : Cond.methodLink RL 21 yX5_end ∈ rs_wg := rs_lk4 (i := 18) rfl rfl
theorem wi_yX5_end : Cond.instanceMethod yX5_end ∈ rs_wg := rs_lk4 (i := 19) rfl rfl
theorem wx_yX5_end : Cond.selects RX5 yX5_end yX5_end ∈ rs_wg := rs_lk4 (i := 20) rfl rfl
theorem wc_yX5_end : Cond.code yX5_end cX5_end 3 (some FieldType.int) ∈ rs_wg := rs_lk4 (i := 21) rfl rfl
theorem wl_L_26 : Cond.methodLink RL 26 yX5_text ∈ rs_wg := rs_lk4 (i := 22) rfl rfl
theorem wi_yX5_text : Cond.instanceMethod yX5_text ∈ rs_wg := rs_lk4 (i := 23) rfl rfl
theorem wx_yX5_text : Cond.selects RX5 yX5_text yX5_text ∈ rs_wg := rs_lk4 (i := 24) rfl rfl
theorem wc_yX5_text : Cond.code yX5_text cX5_text 2 (some FieldType.int) ∈ rs_wg := rs_lk4 (i := 25) rfl rfl
theorem wl_X5_111 : Cond.methodLink RX5 111 yX5_reads ∈ rs_wg := rs_lk4 (i := 26) rfl rfl
theorem wi_yX5_reads : Cond.instanceMethod yX5_reads ∈ rs_wg := rs_lk4 (i := 28) rfl rfl
theorem wc_yX5_reads : Cond.code yX5_reads cX5_reads 2 none ∈ rs_wg := rs_lk4 (i := 29) rfl rfl
theorem wl_X5_81 : Cond.methodLink RX5 81 yX5_byteAt ∈ rs_wg := rs_lk4 (i := 30) rfl rfl
theorem wi_yX5_byteAt : Cond.instanceMethod yX5_byteAt ∈ rs_wg := rs_lk4 (i := 32) rfl rfl
theorem wc_yX5_byteAt : Cond.code yX5_byteAt cX5_byteAt 2 (some FieldType.int) ∈ rs_wg := rs_lk4 (i := 33) rfl rfl
theorem wk_X5_96 : Cond.constantLong RX5 96 (97) ∈ rs_wg := rs_lk4 (i := 34) rfl rfl
theorem wk_X5_98 : Cond.constantLong RX5 98 (122) ∈ rs_wg := rs_lk4 (i := 35) rfl rfl
theorem wk_X5_100 : Cond.constantLong RX5 100 (48) ∈ rs_wg := rs_lk4 (i := 36) rfl rfl
theorem wk_X5_102 : Cond.constantLong RX5 102 (57) ∈ rs_wg := rs_lk4 (i := 37) rfl rfl
theorem wl_X5_107 : Cond.methodLink RX5 107 yX5_requires ∈ rs_wg := rs_lk4 (i := 38) rfl rfl
theorem wi_yX5_requires : Cond.instanceMethod yX5_requires ∈ rs_wg := rs_lk4 (i := 40) rfl rfl
theorem wc_yX5_requires : Cond.code yX5_requires cX5_requires 3 none ∈ rs_wg := rs_lk4 (i := 41) rfl rfl
theorem wl_X5_138 : Cond.methodLink RX5 138 yX5_readLine ∈ rs_wg := rs_lk4 (i := 42) rfl rfl
theorem wi_yX5_readLine : Cond.instanceMethod yX5_readLine ∈ rs_wg := rs_lk4 (i := 44) rfl rfl
theorem wc_yX5_readLine : Cond.code yX5_readLine cX5_readLine 2 none ∈ rs_wg := rs_lk4 (i := 45) rfl rfl
theorem wl_X5_130 : Cond.methodLink RX5 130 yX5_lineNow ∈ rs_wg := rs_lk4 (i := 46) rfl rfl
theorem wi_yX5_lineNow : Cond.instanceMethod yX5_lineNow ∈ rs_wg := rs_lk4 (i := 48) rfl rfl
theorem wc_yX5_lineNow : Cond.code yX5_lineNow cX5_lineNow 1 (some FieldType.int) ∈ rs_wg := rs_lk4 (i := 49) rfl rfl
theorem wl_X5_85 : Cond.methodLink RX5 85 yX5_is ∈ rs_wg := rs_lk4 (i := 50) rfl rfl
theorem wi_yX5_is : Cond.instanceMethod yX5_is ∈ rs_wg := rs_lk4 (i := 52) rfl rfl
theorem wc_yX5_is : Cond.code yX5_is cX5_is 5 (some FieldType.boolean) ∈ rs_wg := rs_lk4 (i := 53) rfl rfl
theorem wl_X5_89 : Cond.methodLink RX5 89 yX5_endsIn ∈ rs_wg := rs_lk4 (i := 54) rfl rfl
theorem wi_yX5_endsIn : Cond.instanceMethod yX5_endsIn ∈ rs_wg := rs_lk4 (i := 56) rfl rfl
theorem wc_yX5_endsIn : Cond.code yX5_endsIn cX5_endsIn 4 (some FieldType.boolean) ∈ rs_wg := rs_lk4 (i := 57) rfl rfl
theorem wl_X5_134 : Cond.methodLink RX5 134 yX5_readLineOf ∈ rs_wg := rs_lk4 (i := 58) rfl rfl
theorem wi_yX5_readLineOf : Cond.instanceMethod yX5_readLineOf ∈ rs_wg := rs_lk4 (i := 60) rfl rfl
theorem wc_yX5_readLineOf : Cond.code yX5_readLineOf cX5_readLineOf 4 none ∈ rs_wg := rs_lk4 (i := 61) rfl rfl
theorem wl_X5_114 : Cond.methodLink RX5 114 yX5_lowTold ∈ rs_wg := rs_lk4 (i := 62) rfl rfl
theorem ws_yX5_lowTold : Cond.static yX5_lowTold ∈ rs_wg := rs_lk4 (i := 63) rfl rfl
theorem wc_yX5_lowTold : Cond.code yX5_lowTold cX5_lowTold 1 (some FieldType.int) ∈ rs_wg := rs_lk4 (i := 64) rfl rfl
theorem wl_X5_117 : Cond.methodLink RX5 117 yX5_mostTold ∈ rs_wg := rs_lk4 (i := 65) rfl rfl
theorem ws_yX5_mostTold : Cond.static yX5_mostTold ∈ rs_wg := rs_lk4 (i := 66) rfl rfl
theorem wc_yX5_mostTold : Cond.code yX5_mostTold cX5_mostTold 1 (some FieldType.int) ∈ rs_wg := rs_lk4 (i := 67) rfl rfl
theorem wl_X5_120 : Cond.methodLink RX5 120 yX5_readNumber ∈ rs_wg := rs_lk4 (i := 68) rfl rfl
theorem wi_yX5_readNumber : Cond.instanceMethod yX5_readNumber ∈ rs_wg := rs_lk4 (i := 70) rfl rfl
theorem wc_yX5_readNumber : Cond.code yX5_readNumber cX5_readNumber 4 (some FieldType.int) ∈ rs_wg := rs_lk4 (i := 71) rfl rfl
theorem wl_X5_124 : Cond.methodLink RX5 124 yX5_lowOf ∈ rs_wg := rs_lk4 (i := 72) rfl rfl
theorem ws_yX5_lowOf : Cond.static yX5_lowOf ∈ rs_wg := rs_lk4 (i := 73) rfl rfl
theorem wc_yX5_lowOf : Cond.code yX5_lowOf cX5_lowOf 1 (some FieldType.int) ∈ rs_wg := rs_lk4 (i := 74) rfl rfl
theorem wl_X5_127 : Cond.methodLink RX5 127 yX5_mostOf ∈ rs_wg := rs_lk4 (i := 75) rfl rfl
theorem ws_yX5_mostOf : Cond.static yX5_mostOf ∈ rs_wg := rs_lk4 (i := 76) rfl rfl
theorem wc_yX5_mostOf : Cond.code yX5_mostOf cX5_mostOf 1 (some FieldType.int) ∈ rs_wg := rs_lk4 (i := 77) rfl rfl
theorem wl_L_30 : Cond.methodLink RL 30 yX5_fault ∈ rs_wg := rs_lk4 (i := 78) rfl rfl
theorem wi_yX5_fault : Cond.instanceMethod yX5_fault ∈ rs_wg := rs_lk4 (i := 79) rfl rfl
theorem wx_yX5_fault : Cond.selects RX5 yX5_fault yX5_fault ∈ rs_wg := rs_lk4 (i := 80) rfl rfl
theorem wc_yX5_fault : Cond.code yX5_fault cX5_fault 1 (some FieldType.int) ∈ rs_wg := rs_lk4 (i := 81) rfl rfl
theorem wl_L_34 : Cond.methodLink RL 34 yX5_rule ∈ rs_wg := rs_lk4 (i := 82) rfl rfl
theorem wi_yX5_rule : Cond.instanceMethod yX5_rule ∈ rs_wg := rs_lk4 (i := 83) rfl rfl
theorem wx_yX5_rule : Cond.selects RX5 yX5_rule yX5_rule ∈ rs_wg := rs_lk4 (i := 84) rfl rfl
theorem wc_yX5_rule : Cond.code yX5_rule cX5_rule 2 (some FieldType.int) ∈ rs_wg := rs_lk4 (i := 85) rfl rfl
theorem wl_X5_184 : Cond.methodLink RX5 184 yX5_starts ∈ rs_wg := rs_lk4 (i := 86) rfl rfl
theorem wi_yX5_starts : Cond.instanceMethod yX5_starts ∈ rs_wg := rs_lk4 (i := 88) rfl rfl
theorem wc_yX5_starts : Cond.code yX5_starts cX5_starts 2 none ∈ rs_wg := rs_lk4 (i := 89) rfl rfl
theorem wl_X5_168 : Cond.methodLink RX5 168 yX5_shine ∈ rs_wg := rs_lk4 (i := 90) rfl rfl
theorem wi_yX5_shine : Cond.instanceMethod yX5_shine ∈ rs_wg := rs_lk4 (i := 92) rfl rfl
theorem wc_yX5_shine : Cond.code yX5_shine cX5_shine 5 (some FieldType.int) ∈ rs_wg := rs_lk4 (i := 93) rfl rfl
theorem wl_X5_162 : Cond.methodLink RX5 162 yX5_of ∈ rs_wg := rs_lk4 (i := 94) rfl rfl
theorem wi_yX5_of : Cond.instanceMethod yX5_of ∈ rs_wg := rs_lk4 (i := 96) rfl rfl
theorem wc_yX5_of : Cond.code yX5_of cX5_of 3 (some FieldType.int) ∈ rs_wg := rs_lk4 (i := 97) rfl rfl
theorem wl_X5_165 : Cond.methodLink RX5 165 yX5_gives ∈ rs_wg := rs_lk4 (i := 98) rfl rfl
theorem wi_yX5_gives : Cond.instanceMethod yX5_gives ∈ rs_wg := rs_lk4 (i := 100) rfl rfl
theorem wc_yX5_gives : Cond.code yX5_gives cX5_gives 5 (some FieldType.int) ∈ rs_wg := rs_lk4 (i := 101) rfl rfl
theorem wl_L_39 : Cond.methodLink RL 39 yX5_lamp ∈ rs_wg := rs_lk4 (i := 102) rfl rfl
theorem wi_yX5_lamp : Cond.instanceMethod yX5_lamp ∈ rs_wg := rs_lk4 (i := 103) rfl rfl
theorem wx_yX5_lamp : Cond.selects RX5 yX5_lamp yX5_lamp ∈ rs_wg := rs_lk4 (i := 104) rfl rfl
theorem wc_yX5_lamp : Cond.code yX5_lamp cX5_lamp 3 (some FieldType.int) ∈ rs_wg := rs_lk4 (i := 105) rfl rfl
theorem wl_X5_187 : Cond.methodLink RX5 187 yX5_isLamp ∈ rs_wg := rs_lk4 (i := 106) rfl rfl
theorem wi_yX5_isLamp : Cond.instanceMethod yX5_isLamp ∈ rs_wg := rs_lk4 (i := 108) rfl rfl
theorem wc_yX5_isLamp : Cond.code yX5_isLamp cX5_isLamp 2 (some FieldType.boolean) ∈ rs_wg := rs_lk4 (i := 109) rfl rfl
theorem wk_X5_191 : Cond.constantLong RX5 191 (4) ∈ rs_wg := rs_lk4 (i := 110) rfl rfl
theorem wl_L_43 : Cond.methodLink RL 43 yX5_row ∈ rs_wg := rs_lk4 (i := 111) rfl rfl
theorem wi_yX5_row : Cond.instanceMethod yX5_row ∈ rs_wg := rs_lk4 (i := 112) rfl rfl
theorem wx_yX5_row : Cond.selects RX5 yX5_row yX5_row ∈ rs_wg := rs_lk4 (i := 113) rfl rfl
theorem wc_yX5_row : Cond.code yX5_row cX5_row 2 (some FieldType.int) ∈ rs_wg := rs_lk4 (i := 114) rfl rfl
theorem wl_X5_193 : Cond.methodLink RX5 193 yX5_isRow ∈ rs_wg := rs_lk4 (i := 115) rfl rfl
theorem ws_yX5_isRow : Cond.static yX5_isRow ∈ rs_wg := rs_lk4 (i := 116) rfl rfl
theorem wc_yX5_isRow : Cond.code yX5_isRow cX5_isRow 1 (some FieldType.boolean) ∈ rs_wg := rs_lk4 (i := 117) rfl rfl
theorem wk_X5_141 : Cond.constantLong RX5 141 (7) ∈ rs_wg := rs_lk4 (i := 118) rfl rfl
theorem wl_L_48 : Cond.methodLink RL 48 yX5_alter ∈ rs_wg := rs_lk4 (i := 119) rfl rfl
theorem wi_yX5_alter : Cond.instanceMethod yX5_alter ∈ rs_wg := rs_lk4 (i := 120) rfl rfl
theorem wx_yX5_alter : Cond.selects RX5 yX5_alter yX5_alter ∈ rs_wg := rs_lk4 (i := 121) rfl rfl
theorem wc_yX5_alter : Cond.code yX5_alter cX5_alter 4 (some FieldType.int) ∈ rs_wg := rs_lk4 (i := 122) rfl rfl
theorem wk_X5_196 : Cond.constantLong RX5 196 (3) ∈ rs_wg := rs_lk4 (i := 123) rfl rfl
theorem wl_X5_198 : Cond.methodLink RX5 198 yX5_becomes ∈ rs_wg := rs_lk4 (i := 124) rfl rfl
theorem wi_yX5_becomes : Cond.instanceMethod yX5_becomes ∈ rs_wg := rs_lk4 (i := 126) rfl rfl
theorem wc_yX5_becomes : Cond.code yX5_becomes cX5_becomes 4 (some FieldType.int) ∈ rs_wg := rs_lk4 (i := 127) rfl rfl
theorem wl_L_52 : Cond.methodLink RL 52 yX5_tell ∈ rs_wg := rs_lk4 (i := 128) rfl rfl
theorem wi_yX5_tell : Cond.instanceMethod yX5_tell ∈ rs_wg := rs_lk4 (i := 129) rfl rfl
theorem wx_yX5_tell : Cond.selects RX5 yX5_tell yX5_tell ∈ rs_wg := rs_lk4 (i := 130) rfl rfl
theorem wc_yX5_tell : Cond.code yX5_tell cX5_tell 3 (some FieldType.int) ∈ rs_wg := rs_lk4 (i := 131) rfl rfl
theorem wl_L_56 : Cond.methodLink RL 56 yX5_put ∈ rs_wg := rs_lk4 (i := 132) rfl rfl
theorem wi_yX5_put : Cond.instanceMethod yX5_put ∈ rs_wg := rs_lk4 (i := 133) rfl rfl
theorem wx_yX5_put : Cond.selects RX5 yX5_put yX5_put ∈ rs_wg := rs_lk4 (i := 134) rfl rfl
theorem wc_yX5_put : Cond.code yX5_put cX5_put 5 (some FieldType.int) ∈ rs_wg := rs_lk4 (i := 135) rfl rfl
theorem wk_X5_201 : Cond.constantLong RX5 201 (9) ∈ rs_wg := rs_lk4 (i := 136) rfl rfl
theorem wk_X5_203 : Cond.constantLong RX5 203 (12) ∈ rs_wg := rs_lk4 (i := 137) rfl rfl
theorem wl_L_60 : Cond.methodLink RL 60 yX5_cut ∈ rs_wg := rs_lk4 (i := 138) rfl rfl
theorem wi_yX5_cut : Cond.instanceMethod yX5_cut ∈ rs_wg := rs_lk4 (i := 139) rfl rfl
theorem wx_yX5_cut : Cond.selects RX5 yX5_cut yX5_cut ∈ rs_wg := rs_lk4 (i := 140) rfl rfl
theorem wc_yX5_cut : Cond.code yX5_cut cX5_cut 2 (some FieldType.int) ∈ rs_wg := rs_lk4 (i := 141) rfl rfl
theorem wl_L_64 : Cond.methodLink RL 64 yX5_rest ∈ rs_wg := rs_lk4 (i := 142) rfl rfl
theorem wi_yX5_rest : Cond.instanceMethod yX5_rest ∈ rs_wg := rs_lk4 (i := 143) rfl rfl
theorem wx_yX5_rest : Cond.selects RX5 yX5_rest yX5_rest ∈ rs_wg := rs_lk4 (i := 144) rfl rfl
theorem wc_yX5_rest : Cond.code yX5_rest cX5_rest 2 (some FieldType.int) ∈ rs_wg := rs_lk4 (i := 145) rfl rfl
theorem wk_X5_205 : Cond.constantLong RX5 205 (60) ∈ rs_wg := rs_lk4 (i := 146) rfl rfl
theorem wk_X5_207 : Cond.constant RX5 207 (99999) ∈ rs_wg := rs_lk4 (i := 147) rfl rfl
theorem wl_L_68 : Cond.methodLink RL 68 yX5_shoot ∈ rs_wg := rs_lk4 (i := 148) rfl rfl
theorem wi_yX5_shoot : Cond.instanceMethod yX5_shoot ∈ rs_wg := rs_lk4 (i := 149) rfl rfl
theorem wx_yX5_shoot : Cond.selects RX5 yX5_shoot yX5_shoot ∈ rs_wg := rs_lk4 (i := 150) rfl rfl
theorem wc_yX5_shoot : Cond.code yX5_shoot cX5_shoot 2 (some FieldType.int) ∈ rs_wg := rs_lk4 (i := 151) rfl rfl
theorem wl_X5_210 : Cond.methodLink RX5 210 yX5_isFar ∈ rs_wg := rs_lk4 (i := 152) rfl rfl
theorem ws_yX5_isFar : Cond.static yX5_isFar ∈ rs_wg := rs_lk4 (i := 153) rfl rfl
theorem wc_yX5_isFar : Cond.code yX5_isFar cX5_isFar 1 (some FieldType.boolean) ∈ rs_wg := rs_lk4 (i := 154) rfl rfl
theorem wk_X5_208 : Cond.constantLong RX5 208 (40) ∈ rs_wg := rs_lk4 (i := 155) rfl rfl
theorem wl_X5_213 : Cond.methodLink RX5 213 yX5_shotsGo ∈ rs_wg := rs_lk4 (i := 156) rfl rfl
theorem wi_yX5_shotsGo : Cond.instanceMethod yX5_shotsGo ∈ rs_wg := rs_lk4 (i := 158) rfl rfl
theorem wc_yX5_shotsGo : Cond.code yX5_shotsGo cX5_shotsGo 3 none ∈ rs_wg := rs_lk4 (i := 159) rfl rfl
theorem wl_X5_181 : Cond.methodLink RX5 181 yX5_shotGoes ∈ rs_wg := rs_lk4 (i := 160) rfl rfl
theorem wi_yX5_shotGoes : Cond.instanceMethod yX5_shotGoes ∈ rs_wg := rs_lk4 (i := 162) rfl rfl
theorem wc_yX5_shotGoes : Cond.code yX5_shotGoes cX5_shotGoes 5 none ∈ rs_wg := rs_lk4 (i := 163) rfl rfl
theorem wl_X5_171 : Cond.methodLink RX5 171 yX5_rowAt ∈ rs_wg := rs_lk4 (i := 164) rfl rfl
theorem wi_yX5_rowAt : Cond.instanceMethod yX5_rowAt ∈ rs_wg := rs_lk4 (i := 166) rfl rfl
theorem wc_yX5_rowAt : Cond.code yX5_rowAt cX5_rowAt 5 (some FieldType.int) ∈ rs_wg := rs_lk4 (i := 167) rfl rfl
theorem wl_X5_174 : Cond.methodLink RX5 174 yX5_flag ∈ rs_wg := rs_lk4 (i := 168) rfl rfl
theorem ws_yX5_flag : Cond.static yX5_flag ∈ rs_wg := rs_lk4 (i := 169) rfl rfl
theorem wc_yX5_flag : Cond.code yX5_flag cX5_flag 1 (some FieldType.int) ∈ rs_wg := rs_lk4 (i := 170) rfl rfl
theorem wl_X5_216 : Cond.methodLink RX5 216 yX5_settles ∈ rs_wg := rs_lk4 (i := 171) rfl rfl
theorem wi_yX5_settles : Cond.instanceMethod yX5_settles ∈ rs_wg := rs_lk4 (i := 173) rfl rfl
theorem wc_yX5_settles : Cond.code yX5_settles cX5_settles 2 none ∈ rs_wg := rs_lk4 (i := 174) rfl rfl
theorem wl_L_72 : Cond.methodLink RL 72 yX5_runs ∈ rs_wg := rs_lk4 (i := 175) rfl rfl
theorem wi_yX5_runs : Cond.instanceMethod yX5_runs ∈ rs_wg := rs_lk4 (i := 176) rfl rfl
theorem wx_yX5_runs : Cond.selects RX5 yX5_runs yX5_runs ∈ rs_wg := rs_lk4 (i := 177) rfl rfl
theorem wc_yX5_runs : Cond.code yX5_runs cX5_runs 3 (some FieldType.int) ∈ rs_wg := rs_lk4 (i := 178) rfl rfl
theorem wl_L_76 : Cond.methodLink RL 76 yX5_ahead ∈ rs_wg := rs_lk4 (i := 179) rfl rfl
theorem wi_yX5_ahead : Cond.instanceMethod yX5_ahead ∈ rs_wg := rs_lk4 (i := 180) rfl rfl
theorem wx_yX5_ahead : Cond.selects RX5 yX5_ahead yX5_ahead ∈ rs_wg := rs_lk4 (i := 181) rfl rfl
theorem wc_yX5_ahead : Cond.code yX5_ahead cX5_ahead 3 (some FieldType.int) ∈ rs_wg := rs_lk4 (i := 182) rfl rfl
theorem wl_L_80 : Cond.methodLink RL 80 yX5_when ∈ rs_wg := rs_lk4 (i := 183) rfl rfl
theorem wi_yX5_when : Cond.instanceMethod yX5_when ∈ rs_wg := rs_lk4 (i := 184) rfl rfl
theorem wx_yX5_when : Cond.selects RX5 yX5_when yX5_when ∈ rs_wg := rs_lk4 (i := 185) rfl rfl
theorem wc_yX5_when : Cond.code yX5_when cX5_when 3 (some FieldType.int) ∈ rs_wg := rs_lk4 (i := 186) rfl rfl
theorem wk_X5_219 : Cond.constantLong RX5 219 (255) ∈ rs_wg := rs_lk4 (i := 187) rfl rfl
theorem wl_L_84 : Cond.methodLink RL 84 yX5_again ∈ rs_wg := rs_lk4 (i := 188) rfl rfl
theorem wi_yX5_again : Cond.instanceMethod yX5_again ∈ rs_wg := rs_lk4 (i := 189) rfl rfl
theorem wx_yX5_again : Cond.selects RX5 yX5_again yX5_again ∈ rs_wg := rs_lk4 (i := 190) rfl rfl
theorem wc_yX5_again : Cond.code yX5_again cX5_again 4 (some FieldType.int) ∈ rs_wg := rs_lk4 (i := 191) rfl rfl
theorem wl_L_88 : Cond.methodLink RL 88 yX5_best ∈ rs_wg := rs_lk4 (i := 192) rfl rfl
theorem wi_yX5_best : Cond.instanceMethod yX5_best ∈ rs_wg := rs_lk4 (i := 193) rfl rfl
theorem wx_yX5_best : Cond.selects RX5 yX5_best yX5_best ∈ rs_wg := rs_lk4 (i := 194) rfl rfl
theorem wc_yX5_best : Cond.code yX5_best cX5_best 4 (some FieldType.int) ∈ rs_wg := rs_lk4 (i := 195) rfl rfl
theorem wl_X5_238 : Cond.methodLink RX5 238 yX5_isPart ∈ rs_wg := rs_lk4 (i := 196) rfl rfl
theorem ws_yX5_isPart : Cond.static yX5_isPart ∈ rs_wg := rs_lk4 (i := 197) rfl rfl
theorem wc_yX5_isPart : Cond.code yX5_isPart cX5_isPart 1 (some FieldType.boolean) ∈ rs_wg := rs_lk4 (i := 198) rfl rfl
theorem wl_X5_241 : Cond.methodLink RX5 241 yX5_bestOf ∈ rs_wg := rs_lk4 (i := 199) rfl rfl
theorem wi_yX5_bestOf : Cond.instanceMethod yX5_bestOf ∈ rs_wg := rs_lk4 (i := 201) rfl rfl
theorem wc_yX5_bestOf : Cond.code yX5_bestOf cX5_bestOf 7 (some FieldType.int) ∈ rs_wg := rs_lk4 (i := 202) rfl rfl
theorem wk_X5_227 : Cond.constant RX5 227 (1000000) ∈ rs_wg := rs_lk4 (i := 203) rfl rfl
theorem wl_X5_228 : Cond.methodLink RX5 228 yX5_startsJudging ∈ rs_wg := rs_lk4 (i := 204) rfl rfl
theorem wi_yX5_startsJudging : Cond.instanceMethod yX5_startsJudging ∈ rs_wg := rs_lk4 (i := 206) rfl rfl
theorem wc_yX5_startsJudging : Cond.code yX5_startsJudging cX5_startsJudging 2 none ∈ rs_wg := rs_lk4 (i := 207) rfl rfl
theorem wl_X5_231 : Cond.methodLink RX5 231 yX5_judges ∈ rs_wg := rs_lk4 (i := 208) rfl rfl
theorem wi_yX5_judges : Cond.instanceMethod yX5_judges ∈ rs_wg := rs_lk4 (i := 210) rfl rfl
theorem wc_yX5_judges : Cond.code yX5_judges cX5_judges 3 none ∈ rs_wg := rs_lk4 (i := 211) rfl rfl
theorem wl_X5_235 : Cond.methodLink RX5 235 yX5_judged ∈ rs_wg := rs_lk4 (i := 212) rfl rfl
theorem wi_yX5_judged : Cond.instanceMethod yX5_judged ∈ rs_wg := rs_lk4 (i := 214) rfl rfl
theorem wc_yX5_judged : Cond.code yX5_judged cX5_judged 2 (some FieldType.int) ∈ rs_wg := rs_lk4 (i := 215) rfl rfl
theorem wl_L_92 : Cond.methodLink RL 92 yX5_kind ∈ rs_wg := rs_lk4 (i := 216) rfl rfl
theorem wi_yX5_kind : Cond.instanceMethod yX5_kind ∈ rs_wg := rs_lk4 (i := 217) rfl rfl
theorem wx_yX5_kind : Cond.selects RX5 yX5_kind yX5_kind ∈ rs_wg := rs_lk4 (i := 218) rfl rfl
theorem wc_yX5_kind : Cond.code yX5_kind cX5_kind 4 (some FieldType.int) ∈ rs_wg := rs_lk4 (i := 219) rfl rfl
theorem wl_L_96 : Cond.methodLink RL 96 yX5_phase ∈ rs_wg := rs_lk4 (i := 220) rfl rfl
theorem wi_yX5_phase : Cond.instanceMethod yX5_phase ∈ rs_wg := rs_lk4 (i := 221) rfl rfl
theorem wx_yX5_phase : Cond.selects RX5 yX5_phase yX5_phase ∈ rs_wg := rs_lk4 (i := 222) rfl rfl
theorem wc_yX5_phase : Cond.code yX5_phase cX5_phase 4 (some FieldType.int) ∈ rs_wg := rs_lk4 (i := 223) rfl rfl
theorem wl_L_100 : Cond.methodLink RL 100 yX5_out ∈ rs_wg := rs_lk4 (i := 224) rfl rfl
theorem wi_yX5_out : Cond.instanceMethod yX5_out ∈ rs_wg := rs_lk4 (i := 225) rfl rfl
theorem wx_yX5_out : Cond.selects RX5 yX5_out yX5_out ∈ rs_wg := rs_lk4 (i := 226) rfl rfl
theorem wc_yX5_out : Cond.code yX5_out cX5_out 4 (some FieldType.int) ∈ rs_wg := rs_lk4 (i := 227) rfl rfl
theorem wl_L_105 : Cond.methodLink RL 105 yX5_luck ∈ rs_wg := rs_lk4 (i := 228) rfl rfl
theorem wi_yX5_luck : Cond.instanceMethod yX5_luck ∈ rs_wg := rs_lk4 (i := 229) rfl rfl
theorem wx_yX5_luck : Cond.selects RX5 yX5_luck yX5_luck ∈ rs_wg := rs_lk4 (i := 230) rfl rfl
theorem wc_yX5_luck : Cond.code yX5_luck cX5_luck 5 (some FieldType.long) ∈ rs_wg := rs_lk4 (i := 231) rfl rfl
theorem wk_X5_259 : Cond.constantLong RX5 259 (10) ∈ rs_wg := rs_lk4 (i := 232) rfl rfl
theorem wk_X5_261 : Cond.constantLong RX5 261 (8) ∈ rs_wg := rs_lk4 (i := 233) rfl rfl
theorem wk_X5_263 : Cond.constantLong RX5 263 (-1) ∈ rs_wg := rs_lk4 (i := 234) rfl rfl
theorem wl_X5_265 : Cond.methodLink RX5 265 yX5_findOdds ∈ rs_wg := rs_lk4 (i := 235) rfl rfl
theorem wi_yX5_findOdds : Cond.instanceMethod yX5_findOdds ∈ rs_wg := rs_lk4 (i := 237) rfl rfl
theorem wc_yX5_findOdds : Cond.code yX5_findOdds cX5_findOdds 8 none ∈ rs_wg := rs_lk4 (i := 238) rfl rfl
theorem wl_X5_269 : Cond.methodLink RX5 269 yX5_lowest ∈ rs_wg := rs_lk4 (i := 239) rfl rfl
theorem ws_yX5_lowest : Cond.static yX5_lowest ∈ rs_wg := rs_lk5 (i := 0) rfl rfl
theorem wc_yX5_lowest : Cond.code yX5_lowest cX5_lowest 7 (some FieldType.long) ∈ rs_wg := rs_lk5 (i := 1) rfl rfl
theorem wl_X5_245 : Cond.methodLink RX5 245 yX5_common ∈ rs_wg := rs_lk5 (i := 2) rfl rfl
theorem ws_yX5_common : Cond.static yX5_common ∈ rs_wg := rs_lk5 (i := 3) rfl rfl
theorem wc_yX5_common : Cond.code yX5_common cX5_common 10 (some FieldType.long) ∈ rs_wg := rs_lk5 (i := 4) rfl rfl
theorem wl_L_110 : Cond.methodLink RL 110 yX5_mean ∈ rs_wg := rs_lk5 (i := 5) rfl rfl
theorem wi_yX5_mean : Cond.instanceMethod yX5_mean ∈ rs_wg := rs_lk5 (i := 6) rfl rfl
theorem wx_yX5_mean : Cond.selects RX5 yX5_mean yX5_mean ∈ rs_wg := rs_lk5 (i := 7) rfl rfl
theorem wc_yX5_mean : Cond.code yX5_mean cX5_mean 4 (some FieldType.long) ∈ rs_wg := rs_lk5 (i := 8) rfl rfl
theorem wl_L_114 : Cond.methodLink RL 114 yX5_see ∈ rs_wg := rs_lk5 (i := 9) rfl rfl
theorem wi_yX5_see : Cond.instanceMethod yX5_see ∈ rs_wg := rs_lk5 (i := 10) rfl rfl
theorem wx_yX5_see : Cond.selects RX5 yX5_see yX5_see ∈ rs_wg := rs_lk5 (i := 11) rfl rfl
theorem wc_yX5_see : Cond.code yX5_see cX5_see 5 (some FieldType.int) ∈ rs_wg := rs_lk5 (i := 12) rfl rfl
theorem wk_X5_273 : Cond.constantLong RX5 273 (20) ∈ rs_wg := rs_lk5 (i := 13) rfl rfl
theorem wl_L_118 : Cond.methodLink RL 118 yX5_forget ∈ rs_wg := rs_lk5 (i := 14) rfl rfl
theorem wi_yX5_forget : Cond.instanceMethod yX5_forget ∈ rs_wg := rs_lk5 (i := 15) rfl rfl
theorem wx_yX5_forget : Cond.selects RX5 yX5_forget yX5_forget ∈ rs_wg := rs_lk5 (i := 16) rfl rfl
theorem wc_yX5_forget : Cond.code yX5_forget cX5_forget 2 (some FieldType.int) ∈ rs_wg := rs_lk5 (i := 17) rfl rfl
theorem wl_L_122 : Cond.methodLink RL 122 yX5_kinds ∈ rs_wg := rs_lk5 (i := 18) rfl rfl
theorem wi_yX5_kinds : Cond.instanceMethod yX5_kinds ∈ rs_wg := rs_lk5 (i := 19) rfl rfl
theorem wx_yX5_kinds : Cond.selects RX5 yX5_kinds yX5_kinds ∈ rs_wg := rs_lk5 (i := 20) rfl rfl
theorem wc_yX5_kinds : Cond.code yX5_kinds cX5_kinds 2 (some FieldType.int) ∈ rs_wg := rs_lk5 (i := 21) rfl rfl
theorem wl_X5_279 : Cond.methodLink RX5 279 yX5_which ∈ rs_wg := rs_lk5 (i := 22) rfl rfl
theorem wi_yX5_which : Cond.instanceMethod yX5_which ∈ rs_wg := rs_lk5 (i := 24) rfl rfl
theorem wc_yX5_which : Cond.code yX5_which cX5_which 5 (some FieldType.int) ∈ rs_wg := rs_lk5 (i := 25) rfl rfl
theorem wl_X5_275 : Cond.methodLink RX5 275 yX5_isSoWith ∈ rs_wg := rs_lk5 (i := 26) rfl rfl
theorem wi_yX5_isSoWith : Cond.instanceMethod yX5_isSoWith ∈ rs_wg := rs_lk5 (i := 28) rfl rfl
theorem wc_yX5_isSoWith : Cond.code yX5_isSoWith cX5_isSoWith 6 (some FieldType.boolean) ∈ rs_wg := rs_lk5 (i := 29) rfl rfl
theorem wl_L_126 : Cond.methodLink RL 126 yX5_phases ∈ rs_wg := rs_lk5 (i := 30) rfl rfl
theorem wi_yX5_phases : Cond.instanceMethod yX5_phases ∈ rs_wg := rs_lk5 (i := 31) rfl rfl
theorem wx_yX5_phases : Cond.selects RX5 yX5_phases yX5_phases ∈ rs_wg := rs_lk5 (i := 32) rfl rfl
theorem wc_yX5_phases : Cond.code yX5_phases cX5_phases 2 (some FieldType.int) ∈ rs_wg := rs_lk5 (i := 33) rfl rfl
theorem wl_L_130 : Cond.methodLink RL 130 yX5_ask ∈ rs_wg := rs_lk5 (i := 34) rfl rfl
theorem wi_yX5_ask : Cond.instanceMethod yX5_ask ∈ rs_wg := rs_lk5 (i := 35) rfl rfl
theorem wx_yX5_ask : Cond.selects RX5 yX5_ask yX5_ask ∈ rs_wg := rs_lk5 (i := 36) rfl rfl
theorem wc_yX5_ask : Cond.code yX5_ask cX5_ask 11 (some FieldType.int) ∈ rs_wg := rs_lk5 (i := 37) rfl rfl
theorem wl_L_134 : Cond.methodLink RL 134 yX5_drift ∈ rs_wg := rs_lk5 (i := 38) rfl rfl
theorem wi_yX5_drift : Cond.instanceMethod yX5_drift ∈ rs_wg := rs_lk5 (i := 39) rfl rfl
theorem wx_yX5_drift : Cond.selects RX5 yX5_drift yX5_drift ∈ rs_wg := rs_lk5 (i := 40) rfl rfl
theorem wc_yX5_drift : Cond.code yX5_drift cX5_drift 7 (some FieldType.int) ∈ rs_wg := rs_lk5 (i := 41) rfl rfl
theorem wk_X5_282 : Cond.constant RX5 282 (1103515245) ∈ rs_wg := rs_lk5 (i := 42) rfl rfl
theorem wl_L_138 : Cond.methodLink RL 138 yX5_keep ∈ rs_wg := rs_lk5 (i := 43) rfl rfl
theorem wi_yX5_keep : Cond.instanceMethod yX5_keep ∈ rs_wg := rs_lk5 (i := 44) rfl rfl
theorem wx_yX5_keep : Cond.selects RX5 yX5_keep yX5_keep ∈ rs_wg := rs_lk5 (i := 45) rfl rfl
theorem wc_yX5_keep : Cond.code yX5_keep cX5_keep 3 (some FieldType.int) ∈ rs_wg := rs_lk5 (i := 46) rfl rfl
theorem wl_X5_283 : Cond.methodLink RX5 283 yX5_copies ∈ rs_wg := rs_lk5 (i := 47) rfl rfl
theorem wi_yX5_copies : Cond.instanceMethod yX5_copies ∈ rs_wg := rs_lk5 (i := 49) rfl rfl
theorem wc_yX5_copies : Cond.code yX5_copies cX5_copies 4 none ∈ rs_wg := rs_lk5 (i := 50) rfl rfl
theorem wl_L_142 : Cond.methodLink RL 142 yX5_back ∈ rs_wg := rs_lk5 (i := 51) rfl rfl
theorem wi_yX5_back : Cond.instanceMethod yX5_back ∈ rs_wg := rs_lk5 (i := 52) rfl rfl
theorem wx_yX5_back : Cond.selects RX5 yX5_back yX5_back ∈ rs_wg := rs_lk5 (i := 53) rfl rfl
theorem wc_yX5_back : Cond.code yX5_back cX5_back 2 (some FieldType.int) ∈ rs_wg := rs_lk5 (i := 54) rfl rfl
theorem wl_L_146 : Cond.methodLink RL 146 yX5_sheet ∈ rs_wg := rs_lk5 (i := 55) rfl rfl
theorem wi_yX5_sheet : Cond.instanceMethod yX5_sheet ∈ rs_wg := rs_lk5 (i := 56) rfl rfl
theorem wx_yX5_sheet : Cond.selects RX5 yX5_sheet yX5_sheet ∈ rs_wg := rs_lk5 (i := 57) rfl rfl
theorem wc_yX5_sheet : Cond.code yX5_sheet cX5_sheet 5 (some FieldType.int) ∈ rs_wg := rs_lk5 (i := 58) rfl rfl
theorem wl_X5_288 : Cond.methodLink RX5 288 yX5_isSheet ∈ rs_wg := rs_lk5 (i := 59) rfl rfl
theorem ws_yX5_isSheet : Cond.static yX5_isSheet ∈ rs_wg := rs_lk5 (i := 60) rfl rfl
theorem wc_yX5_isSheet : Cond.code yX5_isSheet cX5_isSheet 2 (some FieldType.boolean) ∈ rs_wg := rs_lk5 (i := 61) rfl rfl
theorem wk_X5_286 : Cond.constantLong RX5 286 (2) ∈ rs_wg := rs_lk5 (i := 62) rfl rfl
theorem wl_L_150 : Cond.methodLink RL 150 yX5_lay ∈ rs_wg := rs_lk5 (i := 63) rfl rfl
theorem wi_yX5_lay : Cond.instanceMethod yX5_lay ∈ rs_wg := rs_lk5 (i := 64) rfl rfl
theorem wx_yX5_lay : Cond.selects RX5 yX5_lay yX5_lay ∈ rs_wg := rs_lk5 (i := 65) rfl rfl
theorem wc_yX5_lay : Cond.code yX5_lay cX5_lay 4 (some FieldType.int) ∈ rs_wg := rs_lk5 (i := 66) rfl rfl
theorem wl_L_155 : Cond.methodLink RL 155 yX5_read ∈ rs_wg := rs_lk5 (i := 67) rfl rfl
theorem wi_yX5_read : Cond.instanceMethod yX5_read ∈ rs_wg := rs_lk5 (i := 68) rfl rfl
theorem wx_yX5_read : Cond.selects RX5 yX5_read yX5_read ∈ rs_wg := rs_lk5 (i := 69) rfl rfl
theorem wc_yX5_read : Cond.code yX5_read cX5_read 11 (some FieldType.int) ∈ rs_wg := rs_lk5 (i := 70) rfl rfl
theorem wl_X5_291 : Cond.methodLink RX5 291 yX5_alter ∈ rs_wg := rs_lk5 (i := 71) rfl rfl
theorem wl_L_159 : Cond.methodLink RL 159 yX5_torn ∈ rs_wg := rs_lk5 (i := 72) rfl rfl
theorem wi_yX5_torn : Cond.instanceMethod yX5_torn ∈ rs_wg := rs_lk5 (i := 73) rfl rfl
theorem wx_yX5_torn : Cond.selects RX5 yX5_torn yX5_torn ∈ rs_wg := rs_lk5 (i := 74) rfl rfl
theorem wc_yX5_torn : Cond.code yX5_torn cX5_torn 1 (some FieldType.int) ∈ rs_wg := rs_lk5 (i := 75) rfl rfl
theorem wl_L_163 : Cond.methodLink RL 163 yX5_count ∈ rs_wg := rs_lk5 (i := 76) rfl rfl
theorem wi_yX5_count : Cond.instanceMethod yX5_count ∈ rs_wg := rs_lk5 (i := 77) rfl rfl
theorem wx_yX5_count : Cond.selects RX5 yX5_count yX5_count ∈ rs_wg := rs_lk5 (i := 78) rfl rfl
theorem wc_yX5_count : Cond.code yX5_count cX5_count 2 (some FieldType.int) ∈ rs_wg := rs_lk5 (i := 79) rfl rfl
theorem wl_X5_298 : Cond.methodLink RX5 298 yX5_sumOf ∈ rs_wg := rs_lk5 (i := 80) rfl rfl
theorem wi_yX5_sumOf : Cond.instanceMethod yX5_sumOf ∈ rs_wg := rs_lk5 (i := 82) rfl rfl
theorem wc_yX5_sumOf : Cond.code yX5_sumOf cX5_sumOf 4 (some FieldType.int) ∈ rs_wg := rs_lk5 (i := 83) rfl rfl
theorem wl_J0_9 : Cond.fieldLink RJ0 9 "java/lang/String" "value" "[B" ∈ rs_wg := rs_lk5 (i := 84) rfl rfl
theorem wl_J0_15 : Cond.fieldLink RJ0 15 "java/lang/String" "coder" "B" ∈ rs_wg := rs_lk5 (i := 85) rfl rfl
theorem rs_lkp {i : Nat} {w : Cond} (h : (k2_sels lw_privs)[i]? = some w) (hg : goodWord w = true) : w ∈ rs_wg := List.mem_filter.mpr ⟨List.mem_append_left _ (List.mem_of_getElem? h), hg⟩
theorem wx_yX3_advance : Cond.selects RX3 yX3_advance yX3_advance ∈ rs_wg := rs_lkp (i := 0) rfl rfl
theorem wx_yX3_takeAll : Cond.selects RX3 yX3_takeAll yX3_takeAll ∈ rs_wg := rs_lkp (i := 1) rfl rfl
theorem wx_yX3_readLine : Cond.selects RX3 yX3_readLine yX3_readLine ∈ rs_wg := rs_lkp (i := 2) rfl rfl
theorem wx_yX3_lineBegun : Cond.selects RX3 yX3_lineBegun yX3_lineBegun ∈ rs_wg := rs_lkp (i := 3) rfl rfl
theorem wx_yX3_isCalled : Cond.selects RX3 yX3_isCalled yX3_isCalled ∈ rs_wg := rs_lkp (i := 4) rfl rfl
theorem wx_yX3_readLamp : Cond.selects RX3 yX3_readLamp yX3_readLamp ∈ rs_wg := rs_lkp (i := 5) rfl rfl
theorem wx_yX3_readNumber : Cond.selects RX3 yX3_readNumber yX3_readNumber ∈ rs_wg := rs_lkp (i := 6) rfl rfl
theorem wx_yX0_sumUp : Cond.selects RX0 yX0_sumUp yX0_sumUp ∈ rs_wg := rs_lkp (i := 7) rfl rfl
theorem wx_yX0_givesAt : Cond.selects RX0 yX0_givesAt yX0_givesAt ∈ rs_wg := rs_lkp (i := 8) rfl rfl
theorem wx_yX3_readRule : Cond.selects RX3 yX3_readRule yX3_readRule ∈ rs_wg := rs_lkp (i := 9) rfl rfl
theorem wx_yX1_lightIn : Cond.selects RX1 yX1_lightIn yX1_lightIn ∈ rs_wg := rs_lkp (i := 10) rfl rfl
theorem wx_yX4_bestPart : Cond.selects RX4 yX4_bestPart yX4_bestPart ∈ rs_wg := rs_lkp (i := 11) rfl rfl
theorem wx_yX4_draftSteadyLamps : Cond.selects RX4 yX4_draftSteadyLamps yX4_draftSteadyLamps ∈ rs_wg := rs_lkp (i := 12) rfl rfl
theorem wx_yX4_fitting : Cond.selects RX4 yX4_fitting yX4_fitting ∈ rs_wg := rs_lkp (i := 13) rfl rfl
theorem wx_yX4_mostAlike : Cond.selects RX4 yX4_mostAlike yX4_mostAlike ∈ rs_wg := rs_lkp (i := 14) rfl rfl
theorem wx_yX4_isPhaseOfLamp : Cond.selects RX4 yX4_isPhaseOfLamp yX4_isPhaseOfLamp ∈ rs_wg := rs_lkp (i := 15) rfl rfl
theorem wx_yX4_takePhases : Cond.selects RX4 yX4_takePhases yX4_takePhases ∈ rs_wg := rs_lkp (i := 16) rfl rfl
theorem wx_yX5_firstDraft : Cond.selects RX5 yX5_firstDraft yX5_firstDraft ∈ rs_wg := rs_lkp (i := 17) rfl rfl
theorem wx_yX5_keepDraft : Cond.selects RX5 yX5_keepDraft yX5_keepDraft ∈ rs_wg := rs_lkp (i := 18) rfl rfl
theorem wx_yX5_reads : Cond.selects RX5 yX5_reads yX5_reads ∈ rs_wg := rs_lkp (i := 19) rfl rfl
theorem wx_yX5_byteAt : Cond.selects RX5 yX5_byteAt yX5_byteAt ∈ rs_wg := rs_lkp (i := 20) rfl rfl
theorem wx_yX5_requires : Cond.selects RX5 yX5_requires yX5_requires ∈ rs_wg := rs_lkp (i := 21) rfl rfl
theorem wx_yX5_readLine : Cond.selects RX5 yX5_readLine yX5_readLine ∈ rs_wg := rs_lkp (i := 22) rfl rfl
theorem wx_yX5_lineNow : Cond.selects RX5 yX5_lineNow yX5_lineNow ∈ rs_wg := rs_lkp (i := 23) rfl rfl
theorem wx_yX5_is : Cond.selects RX5 yX5_is yX5_is ∈ rs_wg := rs_lkp (i := 24) rfl rfl
theorem wx_yX5_endsIn : Cond.selects RX5 yX5_endsIn yX5_endsIn ∈ rs_wg := rs_lkp (i := 25) rfl rfl
theorem wx_yX5_readLineOf : Cond.selects RX5 yX5_readLineOf yX5_readLineOf ∈ rs_wg := rs_lkp (i := 26) rfl rfl
theorem wx_yX5_readNumber : Cond.selects RX5 yX5_readNumber yX5_readNumber ∈ rs_wg := rs_lkp (i := 27) rfl rfl
theorem wx_yX5_starts : Cond.selects RX5 yX5_starts yX5_starts ∈ rs_wg := rs_lkp (i := 28) rfl rfl
theorem wx_yX5_shine : Cond.selects RX5 yX5_shine yX5_shine ∈ rs_wg := rs_lkp (i := 29) rfl rfl
theorem wx_yX5_of : Cond.selects RX5 yX5_of yX5_of ∈ rs_wg := rs_lkp (i := 30) rfl rfl
theorem wx_yX5_gives : Cond.selects RX5 yX5_gives yX5_gives ∈ rs_wg := rs_lkp (i := 31) rfl rfl
theorem wx_yX5_isLamp : Cond.selects RX5 yX5_isLamp yX5_isLamp ∈ rs_wg := rs_lkp (i := 32) rfl rfl
theorem wx_yX5_becomes : Cond.selects RX5 yX5_becomes yX5_becomes ∈ rs_wg := rs_lkp (i := 33) rfl rfl
theorem wx_yX5_shotsGo : Cond.selects RX5 yX5_shotsGo yX5_shotsGo ∈ rs_wg := rs_lkp (i := 34) rfl rfl
theorem wx_yX5_shotGoes : Cond.selects RX5 yX5_shotGoes yX5_shotGoes ∈ rs_wg := rs_lkp (i := 35) rfl rfl
theorem wx_yX5_rowAt : Cond.selects RX5 yX5_rowAt yX5_rowAt ∈ rs_wg := rs_lkp (i := 36) rfl rfl
theorem wx_yX5_settles : Cond.selects RX5 yX5_settles yX5_settles ∈ rs_wg := rs_lkp (i := 37) rfl rfl
theorem wx_yX5_bestOf : Cond.selects RX5 yX5_bestOf yX5_bestOf ∈ rs_wg := rs_lkp (i := 38) rfl rfl
theorem wx_yX5_startsJudging : Cond.selects RX5 yX5_startsJudging yX5_startsJudging ∈ rs_wg := rs_lkp (i := 39) rfl rfl
theorem wx_yX5_judges : Cond.selects RX5 yX5_judges yX5_judges ∈ rs_wg := rs_lkp (i := 40) rfl rfl
theorem wx_yX5_judged : Cond.selects RX5 yX5_judged yX5_judged ∈ rs_wg := rs_lkp (i := 41) rfl rfl
theorem wx_yX5_findOdds : Cond.selects RX5 yX5_findOdds yX5_findOdds ∈ rs_wg := rs_lkp (i := 42) rfl rfl
theorem wx_yX5_which : Cond.selects RX5 yX5_which yX5_which ∈ rs_wg := rs_lkp (i := 43) rfl rfl
theorem wx_yX5_isSoWith : Cond.selects RX5 yX5_isSoWith yX5_isSoWith ∈ rs_wg := rs_lkp (i := 44) rfl rfl
theorem wx_yX5_copies : Cond.selects RX5 yX5_copies yX5_copies ∈ rs_wg := rs_lkp (i := 45) rfl rfl
theorem wx_yX5_sumOf : Cond.selects RX5 yX5_sumOf yX5_sumOf ∈ rs_wg := rs_lkp (i := 46) rfl rfl
theorem wu_X0 : ∀ w ∈ u_ws RX0 TX0 2, w ∈ rs_wg := fun w hw => (show ∀ w ∈ u_ws RX0 TX0 2, w ∈ rs_wg from fun w hw => List.mem_filter.mpr ((show ∀ w ∈ u_ws RX0 TX0 2, w ∈ lw_tbl ∧ goodWord w = true by decide +kernel) w hw)) w hw
theorem wu_X1 : ∀ w ∈ u_ws RX1 TX1 11, w ∈ rs_wg := fun w hw => (show ∀ w ∈ u_ws RX1 TX1 11, w ∈ rs_wg from fun w hw => List.mem_filter.mpr ((show ∀ w ∈ u_ws RX1 TX1 11, w ∈ lw_tbl ∧ goodWord w = true by decide +kernel) w hw)) w hw
theorem wu_X2 : ∀ w ∈ u_ws RX2 TX2 3, w ∈ rs_wg := fun w hw => (show ∀ w ∈ u_ws RX2 TX2 3, w ∈ rs_wg from fun w hw => List.mem_filter.mpr ((show ∀ w ∈ u_ws RX2 TX2 3, w ∈ lw_tbl ∧ goodWord w = true by decide +kernel) w hw)) w hw
theorem wu_X3 : ∀ w ∈ u_ws RX3 TX3 7, w ∈ rs_wg := fun w hw => (show ∀ w ∈ u_ws RX3 TX3 7, w ∈ rs_wg from fun w hw => List.mem_filter.mpr ((show ∀ w ∈ u_ws RX3 TX3 7, w ∈ lw_tbl ∧ goodWord w = true by decide +kernel) w hw)) w hw
theorem wu_X4 : ∀ w ∈ u_ws RX4 TX4 8, w ∈ rs_wg := fun w hw => (show ∀ w ∈ u_ws RX4 TX4 8, w ∈ rs_wg from fun w hw => List.mem_filter.mpr ((show ∀ w ∈ u_ws RX4 TX4 8, w ∈ lw_tbl ∧ goodWord w = true by decide +kernel) w hw)) w hw
theorem wu_X5 : ∀ w ∈ u_ws RX5 TX5 34, w ∈ rs_wg := fun w hw => (show ∀ w ∈ u_ws RX5 TX5 34, w ∈ rs_wg from fun w hw => List.mem_filter.mpr ((show ∀ w ∈ u_ws RX5 TX5 34, w ∈ lw_tbl ∧ goodWord w = true by decide +kernel) w hw)) w hw
end
