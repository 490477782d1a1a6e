-- ===== PART A: goes FIRST, ahead of the names: the tables' words, and 'selects' of the private methods out of them =====
/-- a private method of a class that the tables say can be made, by its rows of tables_1 -/
def lw_okq (q : MethodName × Nat) : Prop := (q.1.cls ≠ "java/lang/invoke/MethodHandle" ∧ q.1.cls ≠ "java/lang/invoke/VarHandle") ∧ Cond.instantiable q.1.cls q.2 ∈ tables_1 ∧ Cond.privateMethod q.1 ∈ tables_1 ∧ Cond.instanceMethod q.1 ∈ tables_1
theorem lw_p0 : lw_okq (⟨"NoiseShaper", "refuse", "(I)I"⟩, 14) := ⟨⟨by decide +kernel, by decide +kernel⟩, List.mem_of_getElem? (i := 18) (by decide +kernel), List.mem_of_getElem? (i := 412) (by decide +kernel), List.mem_of_getElem? (i := 413) (by decide +kernel)⟩
theorem lw_p1 : lw_okq (⟨"NoiseShaper", "beginAnewFrom", "(I)V"⟩, 14) := ⟨⟨by decide +kernel, by decide +kernel⟩, List.mem_of_getElem? (i := 18) (by decide +kernel), List.mem_of_getElem? (i := 416) (by decide +kernel), List.mem_of_getElem? (i := 417) (by decide +kernel)⟩
theorem lw_p2 : lw_okq (⟨"NoiseShaper", "answer", "(I)I"⟩, 14) := ⟨⟨by decide +kernel, by decide +kernel⟩, List.mem_of_getElem? (i := 18) (by decide +kernel), List.mem_of_getElem? (i := 448) (by decide +kernel), List.mem_of_getElem? (i := 449) (by decide +kernel)⟩
theorem lw_p3 : lw_okq (⟨"NoiseShaper$Elements", "weightsOf", "(I)I"⟩, 11) := ⟨⟨by decide +kernel, by decide +kernel⟩, List.mem_of_getElem? (i := 161) (by decide +kernel), List.mem_of_getElem? (i := 488) (by decide +kernel), List.mem_of_getElem? (i := 489) (by decide +kernel)⟩
theorem lw_p4 : lw_okq (⟨"NoiseShaper", "oneClock", "()V"⟩, 14) := ⟨⟨by decide +kernel, by decide +kernel⟩, List.mem_of_getElem? (i := 18) (by decide +kernel), List.mem_of_getElem? (i := 544) (by decide +kernel), List.mem_of_getElem? (i := 545) (by decide +kernel)⟩
theorem lw_p5 : lw_okq (⟨"NoiseShaper$Source", "numberUnbound", "(I)I"⟩, 5) := ⟨⟨by decide +kernel, by decide +kernel⟩, List.mem_of_getElem? (i := 26) (by decide +kernel), List.mem_of_getElem? (i := 552) (by decide +kernel), List.mem_of_getElem? (i := 553) (by decide +kernel)⟩
theorem lw_p6 : lw_okq (⟨"NoiseShaper$Loop", "outOf", "(I)I"⟩, 14) := ⟨⟨by decide +kernel, by decide +kernel⟩, List.mem_of_getElem? (i := 54) (by decide +kernel), List.mem_of_getElem? (i := 573) (by decide +kernel), List.mem_of_getElem? (i := 574) (by decide +kernel)⟩
theorem lw_p7 : lw_okq (⟨"NoiseShaper$Loop", "drawDither", "()I"⟩, 14) := ⟨⟨by decide +kernel, by decide +kernel⟩, List.mem_of_getElem? (i := 54) (by decide +kernel), List.mem_of_getElem? (i := 577) (by decide +kernel), List.mem_of_getElem? (i := 578) (by decide +kernel)⟩
theorem lw_p8 : lw_okq (⟨"NoiseShaper$Loop", "outOfSums", "(II)I"⟩, 14) := ⟨⟨by decide +kernel, by decide +kernel⟩, List.mem_of_getElem? (i := 54) (by decide +kernel), List.mem_of_getElem? (i := 585) (by decide +kernel), List.mem_of_getElem? (i := 586) (by decide +kernel)⟩
theorem lw_p9 : lw_okq (⟨"NoiseShaper$Loop", "hold", "(I)I"⟩, 14) := ⟨⟨by decide +kernel, by decide +kernel⟩, List.mem_of_getElem? (i := 54) (by decide +kernel), List.mem_of_getElem? (i := 589) (by decide +kernel), List.mem_of_getElem? (i := 590) (by decide +kernel)⟩
theorem lw_p10 : lw_okq (⟨"NoiseShaper$Loop", "outOfCascade", "(II)I"⟩, 14) := ⟨⟨by decide +kernel, by decide +kernel⟩, List.mem_of_getElem? (i := 54) (by decide +kernel), List.mem_of_getElem? (i := 609) (by decide +kernel), List.mem_of_getElem? (i := 610) (by decide +kernel)⟩
theorem lw_p11 : lw_okq (⟨"NoiseShaper$Loop", "differenceOf", "(II)I"⟩, 14) := ⟨⟨by decide +kernel, by decide +kernel⟩, List.mem_of_getElem? (i := 54) (by decide +kernel), List.mem_of_getElem? (i := 621) (by decide +kernel), List.mem_of_getElem? (i := 622) (by decide +kernel)⟩
theorem lw_p12 : lw_okq (⟨"NoiseShaper$Loop", "outOfErrors", "(II)I"⟩, 14) := ⟨⟨by decide +kernel, by decide +kernel⟩, List.mem_of_getElem? (i := 54) (by decide +kernel), List.mem_of_getElem? (i := 625) (by decide +kernel), List.mem_of_getElem? (i := 626) (by decide +kernel)⟩
theorem lw_p13 : lw_okq (⟨"NoiseShaper$Loop", "shapedErrors", "()I"⟩, 14) := ⟨⟨by decide +kernel, by decide +kernel⟩, List.mem_of_getElem? (i := 54) (by decide +kernel), List.mem_of_getElem? (i := 629) (by decide +kernel), List.mem_of_getElem? (i := 630) (by decide +kernel)⟩
theorem lw_p14 : lw_okq (⟨"NoiseShaper$Elements", "chooseRotated", "(I)I"⟩, 11) := ⟨⟨by decide +kernel, by decide +kernel⟩, List.mem_of_getElem? (i := 161) (by decide +kernel), List.mem_of_getElem? (i := 657) (by decide +kernel), List.mem_of_getElem? (i := 658) (by decide +kernel)⟩
theorem lw_p15 : lw_okq (⟨"NoiseShaper$Elements", "chooseTwice", "(I)I"⟩, 11) := ⟨⟨by decide +kernel, by decide +kernel⟩, List.mem_of_getElem? (i := 161) (by decide +kernel), List.mem_of_getElem? (i := 661) (by decide +kernel), List.mem_of_getElem? (i := 662) (by decide +kernel)⟩
def lw_privs_1 : List (MethodName × Nat) := [(⟨"NoiseShaper", "refuse", "(I)I"⟩, 14), (⟨"NoiseShaper", "beginAnewFrom", "(I)V"⟩, 14), (⟨"NoiseShaper", "answer", "(I)I"⟩, 14), (⟨"NoiseShaper$Elements", "weightsOf", "(I)I"⟩, 11), (⟨"NoiseShaper", "oneClock", "()V"⟩, 14), (⟨"NoiseShaper$Source", "numberUnbound", "(I)I"⟩, 5), (⟨"NoiseShaper$Loop", "outOf", "(I)I"⟩, 14), (⟨"NoiseShaper$Loop", "drawDither", "()I"⟩, 14), (⟨"NoiseShaper$Loop", "outOfSums", "(II)I"⟩, 14), (⟨"NoiseShaper$Loop", "hold", "(I)I"⟩, 14), (⟨"NoiseShaper$Loop", "outOfCascade", "(II)I"⟩, 14), (⟨"NoiseShaper$Loop", "differenceOf", "(II)I"⟩, 14), (⟨"NoiseShaper$Loop", "outOfErrors", "(II)I"⟩, 14), (⟨"NoiseShaper$Loop", "shapedErrors", "()I"⟩, 14), (⟨"NoiseShaper$Elements", "chooseRotated", "(I)I"⟩, 11), (⟨"NoiseShaper$Elements", "chooseTwice", "(I)I"⟩, 11)]
theorem lw_r1 : ∀ q ∈ lw_privs_1, lw_okq q := List.forall_mem_cons.mpr ⟨lw_p0, List.forall_mem_cons.mpr ⟨lw_p1, List.forall_mem_cons.mpr ⟨lw_p2, List.forall_mem_cons.mpr ⟨lw_p3, List.forall_mem_cons.mpr ⟨lw_p4, List.forall_mem_cons.mpr ⟨lw_p5, List.forall_mem_cons.mpr ⟨lw_p6, List.forall_mem_cons.mpr ⟨lw_p7, List.forall_mem_cons.mpr ⟨lw_p8, List.forall_mem_cons.mpr ⟨lw_p9, List.forall_mem_cons.mpr ⟨lw_p10, List.forall_mem_cons.mpr ⟨lw_p11, List.forall_mem_cons.mpr ⟨lw_p12, List.forall_mem_cons.mpr ⟨lw_p13, List.forall_mem_cons.mpr ⟨lw_p14, List.forall_mem_cons.mpr ⟨lw_p15, fun _ h => absurd h List.not_mem_nil⟩⟩⟩⟩⟩⟩⟩⟩⟩⟩⟩⟩⟩⟩⟩⟩
theorem lw_p16 : lw_okq (⟨"NoiseShaper$Elements", "mostDue", "(I)I"⟩, 11) := ⟨⟨by decide +kernel, by decide +kernel⟩, List.mem_of_getElem? (i := 161) (by decide +kernel), List.mem_of_getElem? (i := 665) (by decide +kernel), List.mem_of_getElem? (i := 666) (by decide +kernel)⟩
theorem lw_p17 : lw_okq (⟨"NoiseShaper$Elements", "runUpDebts", "(I)V"⟩, 11) := ⟨⟨by decide +kernel, by decide +kernel⟩, List.mem_of_getElem? (i := 161) (by decide +kernel), List.mem_of_getElem? (i := 669) (by decide +kernel), List.mem_of_getElem? (i := 670) (by decide +kernel)⟩
theorem lw_p18 : lw_okq (⟨"NoiseShaper", "handToFolds", "(I)V"⟩, 14) := ⟨⟨by decide +kernel, by decide +kernel⟩, List.mem_of_getElem? (i := 18) (by decide +kernel), List.mem_of_getElem? (i := 691) (by decide +kernel), List.mem_of_getElem? (i := 692) (by decide +kernel)⟩
theorem lw_p19 : lw_okq (⟨"NoiseShaper", "answerLong", "(J)J"⟩, 14) := ⟨⟨by decide +kernel, by decide +kernel⟩, List.mem_of_getElem? (i := 18) (by decide +kernel), List.mem_of_getElem? (i := 728) (by decide +kernel), List.mem_of_getElem? (i := 729) (by decide +kernel)⟩
theorem lw_p20 : lw_okq (⟨"NoiseShaper", "keptByLoop", "()I"⟩, 14) := ⟨⟨by decide +kernel, by decide +kernel⟩, List.mem_of_getElem? (i := 18) (by decide +kernel), List.mem_of_getElem? (i := 737) (by decide +kernel), List.mem_of_getElem? (i := 738) (by decide +kernel)⟩
theorem lw_p21 : lw_okq (⟨"NoiseShaper", "greatestGapOf", "(I)J"⟩, 14) := ⟨⟨by decide +kernel, by decide +kernel⟩, List.mem_of_getElem? (i := 18) (by decide +kernel), List.mem_of_getElem? (i := 742) (by decide +kernel), List.mem_of_getElem? (i := 743) (by decide +kernel)⟩
theorem lw_p22 : lw_okq (⟨"NoiseShaper$Taps", "manyOf", "(II)I"⟩, 2) := ⟨⟨by decide +kernel, by decide +kernel⟩, List.mem_of_getElem? (i := 256) (by decide +kernel), List.mem_of_getElem? (i := 808) (by decide +kernel), List.mem_of_getElem? (i := 809) (by decide +kernel)⟩
theorem lw_p23 : lw_okq (⟨"NoiseShaper$Comb", "foldByOnes", "()V"⟩, 10) := ⟨⟨by decide +kernel, by decide +kernel⟩, List.mem_of_getElem? (i := 212) (by decide +kernel), List.mem_of_getElem? (i := 834) (by decide +kernel), List.mem_of_getElem? (i := 835) (by decide +kernel)⟩
theorem lw_p24 : lw_okq (⟨"NoiseShaper$Tone", "findOrPut", "(I)I"⟩, 6) := ⟨⟨by decide +kernel, by decide +kernel⟩, List.mem_of_getElem? (i := 288) (by decide +kernel), List.mem_of_getElem? (i := 895) (by decide +kernel), List.mem_of_getElem? (i := 896) (by decide +kernel)⟩
theorem lw_p25 : lw_okq (⟨"NoiseShaper$Tone", "cellOf", "(I)I"⟩, 6) := ⟨⟨by decide +kernel, by decide +kernel⟩, List.mem_of_getElem? (i := 288) (by decide +kernel), List.mem_of_getElem? (i := 899) (by decide +kernel), List.mem_of_getElem? (i := 900) (by decide +kernel)⟩
theorem lw_p26 : lw_okq (⟨"NoiseShaper$Tone", "isSame", "(II)Z"⟩, 6) := ⟨⟨by decide +kernel, by decide +kernel⟩, List.mem_of_getElem? (i := 288) (by decide +kernel), List.mem_of_getElem? (i := 904) (by decide +kernel), List.mem_of_getElem? (i := 905) (by decide +kernel)⟩
theorem lw_p27 : lw_okq (⟨"NoiseShaper$Tone", "patternAt", "(I)I"⟩, 6) := ⟨⟨by decide +kernel, by decide +kernel⟩, List.mem_of_getElem? (i := 288) (by decide +kernel), List.mem_of_getElem? (i := 913) (by decide +kernel), List.mem_of_getElem? (i := 914) (by decide +kernel)⟩
theorem lw_p28 : lw_okq (⟨"NoiseShaper", "hitClocksAhead", "(II)I"⟩, 14) := ⟨⟨by decide +kernel, by decide +kernel⟩, List.mem_of_getElem? (i := 18) (by decide +kernel), List.mem_of_getElem? (i := 973) (by decide +kernel), List.mem_of_getElem? (i := 974) (by decide +kernel)⟩
theorem lw_p29 : lw_okq (⟨"NoiseShaperModel", "refuse", "(I)I"⟩, 35) := ⟨⟨by decide +kernel, by decide +kernel⟩, List.mem_of_getElem? (i := 982) (by decide +kernel), List.mem_of_getElem? (i := 1109) (by decide +kernel), List.mem_of_getElem? (i := 1110) (by decide +kernel)⟩
theorem lw_p30 : lw_okq (⟨"NoiseShaperModel", "begins", "(I)V"⟩, 35) := ⟨⟨by decide +kernel, by decide +kernel⟩, List.mem_of_getElem? (i := 982) (by decide +kernel), List.mem_of_getElem? (i := 1113) (by decide +kernel), List.mem_of_getElem? (i := 1114) (by decide +kernel)⟩
theorem lw_p31 : lw_okq (⟨"NoiseShaperModel", "wipes", "(II)V"⟩, 35) := ⟨⟨by decide +kernel, by decide +kernel⟩, List.mem_of_getElem? (i := 982) (by decide +kernel), List.mem_of_getElem? (i := 1117) (by decide +kernel), List.mem_of_getElem? (i := 1118) (by decide +kernel)⟩
def lw_privs_2 : List (MethodName × Nat) := [(⟨"NoiseShaper$Elements", "mostDue", "(I)I"⟩, 11), (⟨"NoiseShaper$Elements", "runUpDebts", "(I)V"⟩, 11), (⟨"NoiseShaper", "handToFolds", "(I)V"⟩, 14), (⟨"NoiseShaper", "answerLong", "(J)J"⟩, 14), (⟨"NoiseShaper", "keptByLoop", "()I"⟩, 14), (⟨"NoiseShaper", "greatestGapOf", "(I)J"⟩, 14), (⟨"NoiseShaper$Taps", "manyOf", "(II)I"⟩, 2), (⟨"NoiseShaper$Comb", "foldByOnes", "()V"⟩, 10), (⟨"NoiseShaper$Tone", "findOrPut", "(I)I"⟩, 6), (⟨"NoiseShaper$Tone", "cellOf", "(I)I"⟩, 6), (⟨"NoiseShaper$Tone", "isSame", "(II)Z"⟩, 6), (⟨"NoiseShaper$Tone", "patternAt", "(I)I"⟩, 6), (⟨"NoiseShaper", "hitClocksAhead", "(II)I"⟩, 14), (⟨"NoiseShaperModel", "refuse", "(I)I"⟩, 35), (⟨"NoiseShaperModel", "begins", "(I)V"⟩, 35), (⟨"NoiseShaperModel", "wipes", "(II)V"⟩, 35)]
theorem lw_r2 : ∀ q ∈ lw_privs_2, lw_okq q := List.forall_mem_cons.mpr ⟨lw_p16, List.forall_mem_cons.mpr ⟨lw_p17, List.forall_mem_cons.mpr ⟨lw_p18, List.forall_mem_cons.mpr ⟨lw_p19, List.forall_mem_cons.mpr ⟨lw_p20, List.forall_mem_cons.mpr ⟨lw_p21, List.forall_mem_cons.mpr ⟨lw_p22, List.forall_mem_cons.mpr ⟨lw_p23, List.forall_mem_cons.mpr ⟨lw_p24, List.forall_mem_cons.mpr ⟨lw_p25, List.forall_mem_cons.mpr ⟨lw_p26, List.forall_mem_cons.mpr ⟨lw_p27, List.forall_mem_cons.mpr ⟨lw_p28, List.forall_mem_cons.mpr ⟨lw_p29, List.forall_mem_cons.mpr ⟨lw_p30, List.forall_mem_cons.mpr ⟨lw_p31, fun _ h => absurd h List.not_mem_nil⟩⟩⟩⟩⟩⟩⟩⟩⟩⟩⟩⟩⟩⟩⟩⟩
theorem lw_p32 : lw_okq (⟨"NoiseShaperModel", "beginsLoop", "()V"⟩, 35) := ⟨⟨by decide +kernel, by decide +kernel⟩, List.mem_of_getElem? (i := 982) (by decide +kernel), List.mem_of_getElem? (i := 1121) (by decide +kernel), List.mem_of_getElem? (i := 1122) (by decide +kernel)⟩
theorem lw_p33 : lw_okq (⟨"NoiseShaperModel", "beginsElements", "()V"⟩, 35) := ⟨⟨by decide +kernel, by decide +kernel⟩, List.mem_of_getElem? (i := 982) (by decide +kernel), List.mem_of_getElem? (i := 1125) (by decide +kernel), List.mem_of_getElem? (i := 1126) (by decide +kernel)⟩
theorem lw_p34 : lw_okq (⟨"NoiseShaperModel", "get", "(I)I"⟩, 35) := ⟨⟨by decide +kernel, by decide +kernel⟩, List.mem_of_getElem? (i := 982) (by decide +kernel), List.mem_of_getElem? (i := 1130) (by decide +kernel), List.mem_of_getElem? (i := 1131) (by decide +kernel)⟩
theorem lw_p35 : lw_okq (⟨"NoiseShaperModel", "gives", "(I)I"⟩, 35) := ⟨⟨by decide +kernel, by decide +kernel⟩, List.mem_of_getElem? (i := 982) (by decide +kernel), List.mem_of_getElem? (i := 1134) (by decide +kernel), List.mem_of_getElem? (i := 1135) (by decide +kernel)⟩
theorem lw_p36 : lw_okq (⟨"NoiseShaperModel", "elements", "()I"⟩, 35) := ⟨⟨by decide +kernel, by decide +kernel⟩, List.mem_of_getElem? (i := 982) (by decide +kernel), List.mem_of_getElem? (i := 1146) (by decide +kernel), List.mem_of_getElem? (i := 1147) (by decide +kernel)⟩
theorem lw_p37 : lw_okq (⟨"NoiseShaperModel", "weights", "()I"⟩, 35) := ⟨⟨by decide +kernel, by decide +kernel⟩, List.mem_of_getElem? (i := 982) (by decide +kernel), List.mem_of_getElem? (i := 1166) (by decide +kernel), List.mem_of_getElem? (i := 1167) (by decide +kernel)⟩
theorem lw_p38 : lw_okq (⟨"NoiseShaperModel", "weight", "(I)I"⟩, 35) := ⟨⟨by decide +kernel, by decide +kernel⟩, List.mem_of_getElem? (i := 982) (by decide +kernel), List.mem_of_getElem? (i := 1170) (by decide +kernel), List.mem_of_getElem? (i := 1171) (by decide +kernel)⟩
theorem lw_p39 : lw_okq (⟨"NoiseShaperModel", "needFor", "(I)I"⟩, 35) := ⟨⟨by decide +kernel, by decide +kernel⟩, List.mem_of_getElem? (i := 982) (by decide +kernel), List.mem_of_getElem? (i := 1174) (by decide +kernel), List.mem_of_getElem? (i := 1175) (by decide +kernel)⟩
theorem lw_p40 : lw_okq (⟨"NoiseShaperModel", "goes", "()V"⟩, 35) := ⟨⟨by decide +kernel, by decide +kernel⟩, List.mem_of_getElem? (i := 982) (by decide +kernel), List.mem_of_getElem? (i := 1200) (by decide +kernel), List.mem_of_getElem? (i := 1201) (by decide +kernel)⟩
theorem lw_p41 : lw_okq (⟨"NoiseShaperModel", "sourceAt", "(I)I"⟩, 35) := ⟨⟨by decide +kernel, by decide +kernel⟩, List.mem_of_getElem? (i := 982) (by decide +kernel), List.mem_of_getElem? (i := 1204) (by decide +kernel), List.mem_of_getElem? (i := 1205) (by decide +kernel)⟩
theorem lw_p42 : lw_okq (⟨"NoiseShaperModel", "tells", "(IJ)V"⟩, 35) := ⟨⟨by decide +kernel, by decide +kernel⟩, List.mem_of_getElem? (i := 982) (by decide +kernel), List.mem_of_getElem? (i := 1209) (by decide +kernel), List.mem_of_getElem? (i := 1210) (by decide +kernel)⟩
theorem lw_p43 : lw_okq (⟨"NoiseShaperModel", "drawn", "()I"⟩, 35) := ⟨⟨by decide +kernel, by decide +kernel⟩, List.mem_of_getElem? (i := 982) (by decide +kernel), List.mem_of_getElem? (i := 1213) (by decide +kernel), List.mem_of_getElem? (i := 1214) (by decide +kernel)⟩
theorem lw_p44 : lw_okq (⟨"NoiseShaperModel", "loops", "(II)I"⟩, 35) := ⟨⟨by decide +kernel, by decide +kernel⟩, List.mem_of_getElem? (i := 982) (by decide +kernel), List.mem_of_getElem? (i := 1221) (by decide +kernel), List.mem_of_getElem? (i := 1222) (by decide +kernel)⟩
theorem lw_p45 : lw_okq (⟨"NoiseShaperModel", "byErrors", "(II)I"⟩, 35) := ⟨⟨by decide +kernel, by decide +kernel⟩, List.mem_of_getElem? (i := 982) (by decide +kernel), List.mem_of_getElem? (i := 1225) (by decide +kernel), List.mem_of_getElem? (i := 1226) (by decide +kernel)⟩
theorem lw_p46 : lw_okq (⟨"NoiseShaperModel", "nearest", "(I)I"⟩, 35) := ⟨⟨by decide +kernel, by decide +kernel⟩, List.mem_of_getElem? (i := 982) (by decide +kernel), List.mem_of_getElem? (i := 1229) (by decide +kernel), List.mem_of_getElem? (i := 1230) (by decide +kernel)⟩
theorem lw_p47 : lw_okq (⟨"NoiseShaperModel", "valueOf", "(I)I"⟩, 35) := ⟨⟨by decide +kernel, by decide +kernel⟩, List.mem_of_getElem? (i := 982) (by decide +kernel), List.mem_of_getElem? (i := 1233) (by decide +kernel), List.mem_of_getElem? (i := 1234) (by decide +kernel)⟩
def lw_privs_3 : List (MethodName × Nat) := [(⟨"NoiseShaperModel", "beginsLoop", "()V"⟩, 35), (⟨"NoiseShaperModel", "beginsElements", "()V"⟩, 35), (⟨"NoiseShaperModel", "get", "(I)I"⟩, 35), (⟨"NoiseShaperModel", "gives", "(I)I"⟩, 35), (⟨"NoiseShaperModel", "elements", "()I"⟩, 35), (⟨"NoiseShaperModel", "weights", "()I"⟩, 35), (⟨"NoiseShaperModel", "weight", "(I)I"⟩, 35), (⟨"NoiseShaperModel", "needFor", "(I)I"⟩, 35), (⟨"NoiseShaperModel", "goes", "()V"⟩, 35), (⟨"NoiseShaperModel", "sourceAt", "(I)I"⟩, 35), (⟨"NoiseShaperModel", "tells", "(IJ)V"⟩, 35), (⟨"NoiseShaperModel", "drawn", "()I"⟩, 35), (⟨"NoiseShaperModel", "loops", "(II)I"⟩, 35), (⟨"NoiseShaperModel", "byErrors", "(II)I"⟩, 35), (⟨"NoiseShaperModel", "nearest", "(I)I"⟩, 35), (⟨"NoiseShaperModel", "valueOf", "(I)I"⟩, 35)]
theorem lw_r3 : ∀ q ∈ lw_privs_3, lw_okq q := List.forall_mem_cons.mpr ⟨lw_p32, List.forall_mem_cons.mpr ⟨lw_p33, List.forall_mem_cons.mpr ⟨lw_p34, List.forall_mem_cons.mpr ⟨lw_p35, List.forall_mem_cons.mpr ⟨lw_p36, List.forall_mem_cons.mpr ⟨lw_p37, List.forall_mem_cons.mpr ⟨lw_p38, List.forall_mem_cons.mpr ⟨lw_p39, List.forall_mem_cons.mpr ⟨lw_p40, List.forall_mem_cons.mpr ⟨lw_p41, List.forall_mem_cons.mpr ⟨lw_p42, List.forall_mem_cons.mpr ⟨lw_p43, List.forall_mem_cons.mpr ⟨lw_p44, List.forall_mem_cons.mpr ⟨lw_p45, List.forall_mem_cons.mpr ⟨lw_p46, List.forall_mem_cons.mpr ⟨lw_p47, fun _ h => absurd h List.not_mem_nil⟩⟩⟩⟩⟩⟩⟩⟩⟩⟩⟩⟩⟩⟩⟩⟩
theorem lw_p48 : lw_okq (⟨"NoiseShaperModel", "held", "(I)I"⟩, 35) := ⟨⟨by decide +kernel, by decide +kernel⟩, List.mem_of_getElem? (i := 982) (by decide +kernel), List.mem_of_getElem? (i := 1238) (by decide +kernel), List.mem_of_getElem? (i := 1239) (by decide +kernel)⟩
theorem lw_p49 : lw_okq (⟨"NoiseShaperModel", "bySums", "(II)I"⟩, 35) := ⟨⟨by decide +kernel, by decide +kernel⟩, List.mem_of_getElem? (i := 982) (by decide +kernel), List.mem_of_getElem? (i := 1242) (by decide +kernel), List.mem_of_getElem? (i := 1243) (by decide +kernel)⟩
theorem lw_p50 : lw_okq (⟨"NoiseShaperModel", "byCascade", "(II)I"⟩, 35) := ⟨⟨by decide +kernel, by decide +kernel⟩, List.mem_of_getElem? (i := 982) (by decide +kernel), List.mem_of_getElem? (i := 1246) (by decide +kernel), List.mem_of_getElem? (i := 1247) (by decide +kernel)⟩
theorem lw_p51 : lw_okq (⟨"NoiseShaperModel", "besides", "()I"⟩, 35) := ⟨⟨by decide +kernel, by decide +kernel⟩, List.mem_of_getElem? (i := 982) (by decide +kernel), List.mem_of_getElem? (i := 1250) (by decide +kernel), List.mem_of_getElem? (i := 1251) (by decide +kernel)⟩
theorem lw_p52 : lw_okq (⟨"NoiseShaperModel", "goesElements", "(I)I"⟩, 35) := ⟨⟨by decide +kernel, by decide +kernel⟩, List.mem_of_getElem? (i := 982) (by decide +kernel), List.mem_of_getElem? (i := 1256) (by decide +kernel), List.mem_of_getElem? (i := 1257) (by decide +kernel)⟩
theorem lw_p53 : lw_okq (⟨"NoiseShaperModel", "wouldBeOn", "(I)I"⟩, 35) := ⟨⟨by decide +kernel, by decide +kernel⟩, List.mem_of_getElem? (i := 982) (by decide +kernel), List.mem_of_getElem? (i := 1260) (by decide +kernel), List.mem_of_getElem? (i := 1261) (by decide +kernel)⟩
theorem lw_p54 : lw_okq (⟨"NoiseShaperModel", "combs", "(J)Z"⟩, 35) := ⟨⟨by decide +kernel, by decide +kernel⟩, List.mem_of_getElem? (i := 982) (by decide +kernel), List.mem_of_getElem? (i := 1273) (by decide +kernel), List.mem_of_getElem? (i := 1274) (by decide +kernel)⟩
theorem lw_p55 : lw_okq (⟨"NoiseShaperModel", "worded", "(J)J"⟩, 35) := ⟨⟨by decide +kernel, by decide +kernel⟩, List.mem_of_getElem? (i := 982) (by decide +kernel), List.mem_of_getElem? (i := 1277) (by decide +kernel), List.mem_of_getElem? (i := 1278) (by decide +kernel)⟩
theorem lw_p56 : lw_okq (⟨"NoiseShaperModel", "latestOf", "(II)J"⟩, 35) := ⟨⟨by decide +kernel, by decide +kernel⟩, List.mem_of_getElem? (i := 982) (by decide +kernel), List.mem_of_getElem? (i := 1281) (by decide +kernel), List.mem_of_getElem? (i := 1282) (by decide +kernel)⟩
theorem lw_p57 : lw_okq (⟨"NoiseShaperModel", "folds", "(IJ)Z"⟩, 35) := ⟨⟨by decide +kernel, by decide +kernel⟩, List.mem_of_getElem? (i := 982) (by decide +kernel), List.mem_of_getElem? (i := 1285) (by decide +kernel), List.mem_of_getElem? (i := 1286) (by decide +kernel)⟩
theorem lw_p58 : lw_okq (⟨"NoiseShaperModel", "tapMany", "(I)I"⟩, 35) := ⟨⟨by decide +kernel, by decide +kernel⟩, List.mem_of_getElem? (i := 982) (by decide +kernel), List.mem_of_getElem? (i := 1289) (by decide +kernel), List.mem_of_getElem? (i := 1290) (by decide +kernel)⟩
theorem lw_p59 : lw_okq (⟨"NoiseShaperModel", "tapOf", "(II)I"⟩, 35) := ⟨⟨by decide +kernel, by decide +kernel⟩, List.mem_of_getElem? (i := 982) (by decide +kernel), List.mem_of_getElem? (i := 1293) (by decide +kernel), List.mem_of_getElem? (i := 1294) (by decide +kernel)⟩
theorem lw_p60 : lw_okq (⟨"NoiseShaperModel", "shiftOf", "(I)I"⟩, 35) := ⟨⟨by decide +kernel, by decide +kernel⟩, List.mem_of_getElem? (i := 982) (by decide +kernel), List.mem_of_getElem? (i := 1297) (by decide +kernel), List.mem_of_getElem? (i := 1298) (by decide +kernel)⟩
theorem lw_p61 : lw_okq (⟨"NoiseShaperModel", "many", "(I)I"⟩, 35) := ⟨⟨by decide +kernel, by decide +kernel⟩, List.mem_of_getElem? (i := 982) (by decide +kernel), List.mem_of_getElem? (i := 1309) (by decide +kernel), List.mem_of_getElem? (i := 1310) (by decide +kernel)⟩
theorem lw_p62 : lw_okq (⟨"NoiseShaperModel", "givesLong", "(J)J"⟩, 35) := ⟨⟨by decide +kernel, by decide +kernel⟩, List.mem_of_getElem? (i := 982) (by decide +kernel), List.mem_of_getElem? (i := 1321) (by decide +kernel), List.mem_of_getElem? (i := 1322) (by decide +kernel)⟩
theorem lw_p63 : lw_okq (⟨"NoiseShaperModel", "spreadNow", "()I"⟩, 35) := ⟨⟨by decide +kernel, by decide +kernel⟩, List.mem_of_getElem? (i := 982) (by decide +kernel), List.mem_of_getElem? (i := 1345) (by decide +kernel), List.mem_of_getElem? (i := 1346) (by decide +kernel)⟩
def lw_privs_4 : List (MethodName × Nat) := [(⟨"NoiseShaperModel", "held", "(I)I"⟩, 35), (⟨"NoiseShaperModel", "bySums", "(II)I"⟩, 35), (⟨"NoiseShaperModel", "byCascade", "(II)I"⟩, 35), (⟨"NoiseShaperModel", "besides", "()I"⟩, 35), (⟨"NoiseShaperModel", "goesElements", "(I)I"⟩, 35), (⟨"NoiseShaperModel", "wouldBeOn", "(I)I"⟩, 35), (⟨"NoiseShaperModel", "combs", "(J)Z"⟩, 35), (⟨"NoiseShaperModel", "worded", "(J)J"⟩, 35), (⟨"NoiseShaperModel", "latestOf", "(II)J"⟩, 35), (⟨"NoiseShaperModel", "folds", "(IJ)Z"⟩, 35), (⟨"NoiseShaperModel", "tapMany", "(I)I"⟩, 35), (⟨"NoiseShaperModel", "tapOf", "(II)I"⟩, 35), (⟨"NoiseShaperModel", "shiftOf", "(I)I"⟩, 35), (⟨"NoiseShaperModel", "many", "(I)I"⟩, 35), (⟨"NoiseShaperModel", "givesLong", "(J)J"⟩, 35), (⟨"NoiseShaperModel", "spreadNow", "()I"⟩, 35)]
theorem lw_r4 : ∀ q ∈ lw_privs_4, lw_okq q := List.forall_mem_cons.mpr ⟨lw_p48, List.forall_mem_cons.mpr ⟨lw_p49, List.forall_mem_cons.mpr ⟨lw_p50, List.forall_mem_cons.mpr ⟨lw_p51, List.forall_mem_cons.mpr ⟨lw_p52, List.forall_mem_cons.mpr ⟨lw_p53, List.forall_mem_cons.mpr ⟨lw_p54, List.forall_mem_cons.mpr ⟨lw_p55, List.forall_mem_cons.mpr ⟨lw_p56, List.forall_mem_cons.mpr ⟨lw_p57, List.forall_mem_cons.mpr ⟨lw_p58, List.forall_mem_cons.mpr ⟨lw_p59, List.forall_mem_cons.mpr ⟨lw_p60, List.forall_mem_cons.mpr ⟨lw_p61, List.forall_mem_cons.mpr ⟨lw_p62, List.forall_mem_cons.mpr ⟨lw_p63, fun _ h => absurd h List.not_mem_nil⟩⟩⟩⟩⟩⟩⟩⟩⟩⟩⟩⟩⟩⟩⟩⟩
theorem lw_p64 : lw_okq (⟨"NoiseShaperModel", "unlikeNone", "(I)I"⟩, 35) := ⟨⟨by decide +kernel, by decide +kernel⟩, List.mem_of_getElem? (i := 982) (by decide +kernel), List.mem_of_getElem? (i := 1361) (by decide +kernel), List.mem_of_getElem? (i := 1362) (by decide +kernel)⟩
theorem lw_p65 : lw_okq (⟨"NoiseShaperModel", "beatOf", "(II)J"⟩, 35) := ⟨⟨by decide +kernel, by decide +kernel⟩, List.mem_of_getElem? (i := 982) (by decide +kernel), List.mem_of_getElem? (i := 1382) (by decide +kernel), List.mem_of_getElem? (i := 1383) (by decide +kernel)⟩
theorem lw_p66 : lw_okq (⟨"NoiseShaperModel", "asks", "(I)V"⟩, 35) := ⟨⟨by decide +kernel, by decide +kernel⟩, List.mem_of_getElem? (i := 982) (by decide +kernel), List.mem_of_getElem? (i := 1394) (by decide +kernel), List.mem_of_getElem? (i := 1395) (by decide +kernel)⟩
theorem lw_p67 : lw_okq (⟨"NoiseShaperModel", "tones", "(IZ)V"⟩, 35) := ⟨⟨by decide +kernel, by decide +kernel⟩, List.mem_of_getElem? (i := 982) (by decide +kernel), List.mem_of_getElem? (i := 1398) (by decide +kernel), List.mem_of_getElem? (i := 1399) (by decide +kernel)⟩
theorem lw_p68 : lw_okq (⟨"NoiseShaperModel", "lays", "(I)V"⟩, 35) := ⟨⟨by decide +kernel, by decide +kernel⟩, List.mem_of_getElem? (i := 982) (by decide +kernel), List.mem_of_getElem? (i := 1405) (by decide +kernel), List.mem_of_getElem? (i := 1406) (by decide +kernel)⟩
theorem lw_p69 : lw_okq (⟨"NoiseShaperModel", "isLike", "(II)Z"⟩, 35) := ⟨⟨by decide +kernel, by decide +kernel⟩, List.mem_of_getElem? (i := 982) (by decide +kernel), List.mem_of_getElem? (i := 1409) (by decide +kernel), List.mem_of_getElem? (i := 1410) (by decide +kernel)⟩
theorem lw_p70 : lw_okq (⟨"NoiseShaperModel", "ofPattern", "(I)I"⟩, 35) := ⟨⟨by decide +kernel, by decide +kernel⟩, List.mem_of_getElem? (i := 982) (by decide +kernel), List.mem_of_getElem? (i := 1413) (by decide +kernel), List.mem_of_getElem? (i := 1414) (by decide +kernel)⟩
theorem lw_p71 : lw_okq (⟨"NoiseShaperModel", "inPattern", "(I)I"⟩, 35) := ⟨⟨by decide +kernel, by decide +kernel⟩, List.mem_of_getElem? (i := 982) (by decide +kernel), List.mem_of_getElem? (i := 1417) (by decide +kernel), List.mem_of_getElem? (i := 1418) (by decide +kernel)⟩
theorem lw_p72 : lw_okq (⟨"NoiseShaperModel", "strained", "(II)I"⟩, 35) := ⟨⟨by decide +kernel, by decide +kernel⟩, List.mem_of_getElem? (i := 982) (by decide +kernel), List.mem_of_getElem? (i := 1445) (by decide +kernel), List.mem_of_getElem? (i := 1446) (by decide +kernel)⟩
def lw_privs_5 : List (MethodName × Nat) := [(⟨"NoiseShaperModel", "unlikeNone", "(I)I"⟩, 35), (⟨"NoiseShaperModel", "beatOf", "(II)J"⟩, 35), (⟨"NoiseShaperModel", "asks", "(I)V"⟩, 35), (⟨"NoiseShaperModel", "tones", "(IZ)V"⟩, 35), (⟨"NoiseShaperModel", "lays", "(I)V"⟩, 35), (⟨"NoiseShaperModel", "isLike", "(II)Z"⟩, 35), (⟨"NoiseShaperModel", "ofPattern", "(I)I"⟩, 35), (⟨"NoiseShaperModel", "inPattern", "(I)I"⟩, 35), (⟨"NoiseShaperModel", "strained", "(II)I"⟩, 35)]
theorem lw_r5 : ∀ q ∈ lw_privs_5, lw_okq q := List.forall_mem_cons.mpr ⟨lw_p64, List.forall_mem_cons.mpr ⟨lw_p65, List.forall_mem_cons.mpr ⟨lw_p66, List.forall_mem_cons.mpr ⟨lw_p67, List.forall_mem_cons.mpr ⟨lw_p68, List.forall_mem_cons.mpr ⟨lw_p69, List.forall_mem_cons.mpr ⟨lw_p70, List.forall_mem_cons.mpr ⟨lw_p71, List.forall_mem_cons.mpr ⟨lw_p72, fun _ h => absurd h List.not_mem_nil⟩⟩⟩⟩⟩⟩⟩⟩⟩
def lw_privs : List (MethodName × Nat) := lw_privs_1 ++ (lw_privs_2 ++ (lw_privs_3 ++ (lw_privs_4 ++ (lw_privs_5))))
def lw_tbl : List Cond := k2_sels lw_privs ++ tables_1
theorem lw_privs_ok : ∀ q ∈ lw_privs, lw_okq q := by
  show ∀ q ∈ lw_privs_1 ++ (lw_privs_2 ++ (lw_privs_3 ++ (lw_privs_4 ++ (lw_privs_5)))), lw_okq q
  exact List.forall_mem_append.mpr ⟨lw_r1, List.forall_mem_append.mpr ⟨lw_r2, List.forall_mem_append.mpr ⟨lw_r3, List.forall_mem_append.mpr ⟨lw_r4, lw_r5⟩⟩⟩⟩
def RX0 : String := "NoiseShaper$Asked"
def TX0 : u_T := fun k => match k with
  | 0 => ("NoiseShaper$Asked", "numbers", "[I", true)
  | _ => ("NoiseShaper$Asked", "many", "I", false)
def tyX0 : Nat → FieldType := fun k => match k with
  | 0 => .array .int
  | _ => .int
abbrev wsX00 : List Cond := u_ws RX0 TX0 2
theorem nmX0 : ∀ a, a < 2 → ∀ b, b < 2 → a ≠ b → (TX0 a).2.1 ≠ (TX0 b).2.1 := by decide +kernel
theorem tyX0_ok : ∀ k, k < 2 → parseFieldDescriptor (TX0 k).2.2.1 = some (tyX0 k) := by decide +kernel
abbrev cX0_init : ByteArray := prog_2_method_1_code
def yX0_init : MethodName := ⟨RX0, "<init>", "()V"⟩
abbrev cX0_forget : ByteArray := prog_2_method_2_code
def yX0_forget : MethodName := ⟨RX0, "forget", "()V"⟩
abbrev cX0_add : ByteArray := prog_2_method_3_code
def yX0_add : MethodName := ⟨RX0, "add", "(I)V"⟩
def RX1 : String := "NoiseShaper$Comb"
def TX1 : u_T := fun k => match k with
  | 0 => ("NoiseShaper$Comb", "order", "I", false)
  | 1 => ("NoiseShaper$Comb", "ratio", "I", false)
  | 2 => ("NoiseShaper$Comb", "width", "I", false)
  | 3 => ("NoiseShaper$Comb", "in", "I", false)
  | 4 => ("NoiseShaper$Comb", "sums", "[J", true)
  | 5 => ("NoiseShaper$Comb", "before", "[J", true)
  | 6 => ("NoiseShaper$Comb", "waited", "I", false)
  | 7 => ("NoiseShaper$Comb", "wrongs", "I", false)
  | 8 => ("NoiseShaper$Comb", "truth", "J", false)
  | _ => ("NoiseShaper$Comb", "answers", "[I", true)
def tyX1 : Nat → FieldType := fun k => match k with
  | 0 => .int
  | 1 => .int
  | 2 => .int
  | 3 => .int
  | 4 => .array .long
  | 5 => .array .long
  | 6 => .int
  | 7 => .int
  | 8 => .long
  | _ => .array .int
abbrev wsX10 : List Cond := u_ws RX1 TX1 10
theorem nmX1 : ∀ a, a < 10 → ∀ b, b < 10 → a ≠ b → (TX1 a).2.1 ≠ (TX1 b).2.1 := by decide +kernel
theorem tyX1_ok : ∀ k, k < 10 → parseFieldDescriptor (TX1 k).2.2.1 = some (tyX1 k) := by decide +kernel
abbrev cX1_init : ByteArray := prog_3_method_1_code
def yX1_init : MethodName := ⟨RX1, "<init>", "()V"⟩
abbrev cX1_begin : ByteArray := prog_3_method_2_code
def yX1_begin : MethodName := ⟨RX1, "begin", "()V"⟩
abbrev cX1_take : ByteArray := prog_3_method_3_code
def yX1_take : MethodName := ⟨RX1, "take", "(I)Z"⟩
abbrev cX1_number : ByteArray := prog_3_method_4_code
def yX1_number : MethodName := ⟨RX1, "number", "()I"⟩
abbrev cX1_cut : ByteArray := prog_3_method_5_code
def yX1_cut : MethodName := ⟨RX1, "cut", "(J)I"⟩
abbrev cX1_leastWidth : ByteArray := prog_3_method_6_code
def yX1_leastWidth : MethodName := ⟨RX1, "leastWidth", "(I)I"⟩
abbrev cX1_lastOfResponse : ByteArray := prog_3_method_7_code
def yX1_lastOfResponse : MethodName := ⟨RX1, "lastOfResponse", "()I"⟩
abbrev cX1_responseAt : ByteArray := prog_3_method_8_code
def yX1_responseAt : MethodName := ⟨RX1, "responseAt", "(I)I"⟩
abbrev cX1_foldByOnes : ByteArray := prog_3_method_9_code
def yX1_foldByOnes : MethodName := ⟨RX1, "foldByOnes", "()V"⟩
def RX2 : String := "NoiseShaper$Elements"
def TX2 : u_T := fun k => match k with
  | 0 => ("NoiseShaper$Elements", "many", "I", false)
  | 1 => ("NoiseShaper$Elements", "way", "I", false)
  | 2 => ("NoiseShaper$Elements", "pointer", "I", false)
  | 3 => ("NoiseShaper$Elements", "on", "I", false)
  | 4 => ("NoiseShaper$Elements", "deviations", "[I", true)
  | 5 => ("NoiseShaper$Elements", "used", "[I", true)
  | 6 => ("NoiseShaper$Elements", "debts", "[I", true)
  | 7 => ("NoiseShaper$Elements", "debtSums", "[I", true)
  | 8 => ("NoiseShaper$Elements", "drift", "J", false)
  | 9 => ("NoiseShaper$Elements", "greatestDrift", "J", false)
  | _ => ("NoiseShaper$Elements", "analogSum", "J", false)
def tyX2 : Nat → FieldType := fun k => match k with
  | 0 => .int
  | 1 => .int
  | 2 => .int
  | 3 => .int
  | 4 => .array .int
  | 5 => .array .int
  | 6 => .array .int
  | 7 => .array .int
  | 8 => .long
  | 9 => .long
  | _ => .long
abbrev wsX20 : List Cond := u_ws RX2 TX2 11
theorem nmX2 : ∀ a, a < 11 → ∀ b, b < 11 → a ≠ b → (TX2 a).2.1 ≠ (TX2 b).2.1 := by decide +kernel
theorem tyX2_ok : ∀ k, k < 11 → parseFieldDescriptor (TX2 k).2.2.1 = some (tyX2 k) := by decide +kernel
abbrev cX2_init : ByteArray := prog_4_method_1_code
def yX2_init : MethodName := ⟨RX2, "<init>", "()V"⟩
abbrev cX2_begin : ByteArray := prog_4_method_2_code
def yX2_begin : MethodName := ⟨RX2, "begin", "()V"⟩
abbrev cX2_beginLike : ByteArray := prog_4_method_3_code
def yX2_beginLike : MethodName := ⟨RX2, "beginLike", "(LNoiseShaper$Elements;I)V"⟩
abbrev cX2_weight : ByteArray := prog_4_method_4_code
def yX2_weight : MethodName := ⟨RX2, "weight", "(I)I"⟩
abbrev cX2_allWeights : ByteArray := prog_4_method_5_code
def yX2_allWeights : MethodName := ⟨RX2, "allWeights", "()I"⟩
abbrev cX2_unevenness : ByteArray := prog_4_method_6_code
def yX2_unevenness : MethodName := ⟨RX2, "unevenness", "()I"⟩
abbrev cX2_take : ByteArray := prog_4_method_7_code
def yX2_take : MethodName := ⟨RX2, "take", "(I)I"⟩
abbrev cX2_choose : ByteArray := prog_4_method_8_code
def yX2_choose : MethodName := ⟨RX2, "choose", "(I)I"⟩
abbrev cX2_chooseRotated : ByteArray := prog_4_method_9_code
def yX2_chooseRotated : MethodName := ⟨RX2, "chooseRotated", "(I)I"⟩
abbrev cX2_chooseTwice : ByteArray := prog_4_method_10_code
def yX2_chooseTwice : MethodName := ⟨RX2, "chooseTwice", "(I)I"⟩
abbrev cX2_mostDue : ByteArray := prog_4_method_11_code
def yX2_mostDue : MethodName := ⟨RX2, "mostDue", "(I)I"⟩
abbrev cX2_runUpDebts : ByteArray := prog_4_method_12_code
def yX2_runUpDebts : MethodName := ⟨RX2, "runUpDebts", "(I)V"⟩
abbrev cX2_weightsOf : ByteArray := prog_4_method_13_code
def yX2_weightsOf : MethodName := ⟨RX2, "weightsOf", "(I)I"⟩
def RX3 : String := "NoiseShaper$Fold"
def TX3 : u_T := fun k => match k with
  | 0 => ("NoiseShaper$Fold", "taps", "I", false)
  | 1 => ("NoiseShaper$Fold", "cells", "[I", true)
  | 2 => ("NoiseShaper$Fold", "at", "I", false)
  | _ => ("NoiseShaper$Fold", "isSecond", "Z", false)
def tyX3 : Nat → FieldType := fun k => match k with
  | 0 => .int
  | 1 => .array .int
  | 2 => .int
  | _ => .boolean
abbrev wsX30 : List Cond := u_ws RX3 TX3 4
theorem nmX3 : ∀ a, a < 4 → ∀ b, b < 4 → a ≠ b → (TX3 a).2.1 ≠ (TX3 b).2.1 := by decide +kernel
theorem tyX3_ok : ∀ k, k < 4 → parseFieldDescriptor (TX3 k).2.2.1 = some (tyX3 k) := by decide +kernel
abbrev cX3_init : ByteArray := prog_5_method_1_code
def yX3_init : MethodName := ⟨RX3, "<init>", "()V"⟩
abbrev cX3_begin : ByteArray := prog_5_method_2_code
def yX3_begin : MethodName := ⟨RX3, "begin", "()V"⟩
abbrev cX3_take : ByteArray := prog_5_method_3_code
def yX3_take : MethodName := ⟨RX3, "take", "(I)Z"⟩
abbrev cX3_number : ByteArray := prog_5_method_4_code
def yX3_number : MethodName := ⟨RX3, "number", "(LNoiseShaper$Taps;)I"⟩
def RX4 : String := "NoiseShaper$Latest"
def TX4 : u_T := fun k => match k with
  | 0 => ("NoiseShaper$Latest", "cells", "[I", true)
  | 1 => ("NoiseShaper$Latest", "at", "I", false)
  | 2 => ("NoiseShaper$Latest", "kept", "I", false)
  | _ => ("NoiseShaper$Latest", "count", "I", false)
def tyX4 : Nat → FieldType := fun k => match k with
  | 0 => .array .int
  | 1 => .int
  | 2 => .int
  | _ => .int
abbrev wsX40 : List Cond := u_ws RX4 TX4 4
theorem nmX4 : ∀ a, a < 4 → ∀ b, b < 4 → a ≠ b → (TX4 a).2.1 ≠ (TX4 b).2.1 := by decide +kernel
theorem tyX4_ok : ∀ k, k < 4 → parseFieldDescriptor (TX4 k).2.2.1 = some (tyX4 k) := by decide +kernel
abbrev cX4_init : ByteArray := prog_6_method_1_code
def yX4_init : MethodName := ⟨RX4, "<init>", "()V"⟩
abbrev cX4_clear : ByteArray := prog_6_method_2_code
def yX4_clear : MethodName := ⟨RX4, "clear", "()V"⟩
abbrev cX4_put : ByteArray := prog_6_method_3_code
def yX4_put : MethodName := ⟨RX4, "put", "(I)V"⟩
abbrev cX4_get : ByteArray := prog_6_method_4_code
def yX4_get : MethodName := ⟨RX4, "get", "(I)I"⟩
abbrev cX4_least : ByteArray := prog_6_method_5_code
def yX4_least : MethodName := ⟨RX4, "least", "()I"⟩
abbrev cX4_greatest : ByteArray := prog_6_method_6_code
def yX4_greatest : MethodName := ⟨RX4, "greatest", "()I"⟩
abbrev cX4_total : ByteArray := prog_6_method_7_code
def yX4_total : MethodName := ⟨RX4, "total", "()J"⟩
abbrev cX4_nearLatest : ByteArray := prog_6_method_8_code
def yX4_nearLatest : MethodName := ⟨RX4, "nearLatest", "(I)I"⟩
abbrev cX4_beatOf : ByteArray := prog_6_method_9_code
def yX4_beatOf : MethodName := ⟨RX4, "beatOf", "(I)J"⟩
abbrev cX4_greatestBeat : ByteArray := prog_6_method_10_code
def yX4_greatestBeat : MethodName := ⟨RX4, "greatestBeat", "(II)I"⟩
def RX5 : String := "NoiseShaper$Loop"
def TX5 : u_T := fun k => match k with
  | 0 => ("NoiseShaper$Loop", "plan", "LNoiseShaper$LoopPlan;", true)
  | 1 => ("NoiseShaper$Loop", "states", "[I", true)
  | 2 => ("NoiseShaper$Loop", "past", "[I", true)
  | 3 => ("NoiseShaper$Loop", "value", "I", false)
  | 4 => ("NoiseShaper$Loop", "x", "I", false)
  | 5 => ("NoiseShaper$Loop", "hits", "I", false)
  | 6 => ("NoiseShaper$Loop", "hitClocks", "I", false)
  | 7 => ("NoiseShaper$Loop", "hit", "Z", false)
  | 8 => ("NoiseShaper$Loop", "greatestHeld", "I", false)
  | 9 => ("NoiseShaper$Loop", "sourceSum", "J", false)
  | 10 => ("NoiseShaper$Loop", "valueSum", "J", false)
  | 11 => ("NoiseShaper$Loop", "outSum", "J", false)
  | 12 => ("NoiseShaper$Loop", "lost", "J", false)
  | _ => ("NoiseShaper$Loop", "greatestGap", "J", false)
def tyX5 : Nat → FieldType := fun k => match k with
  | 0 => .object "NoiseShaper$LoopPlan"
  | 1 => .array .int
  | 2 => .array .int
  | 3 => .int
  | 4 => .int
  | 5 => .int
  | 6 => .int
  | 7 => .boolean
  | 8 => .int
  | 9 => .long
  | 10 => .long
  | 11 => .long
  | 12 => .long
  | _ => .long
abbrev wsX50 : List Cond := u_ws RX5 TX5 14
theorem nmX5 : ∀ a, a < 14 → ∀ b, b < 14 → a ≠ b → (TX5 a).2.1 ≠ (TX5 b).2.1 := by decide +kernel
theorem tyX5_ok : ∀ k, k < 14 → parseFieldDescriptor (TX5 k).2.2.1 = some (tyX5 k) := by decide +kernel
abbrev cX5_init : ByteArray := prog_7_method_1_code
def yX5_init : MethodName := ⟨RX5, "<init>", "()V"⟩
abbrev cX5_begin : ByteArray := prog_7_method_2_code
def yX5_begin : MethodName := ⟨RX5, "begin", "()V"⟩
abbrev cX5_beginTone : ByteArray := prog_7_method_3_code
def yX5_beginTone : MethodName := ⟨RX5, "beginTone", "(LNoiseShaper$LoopPlan;)V"⟩
abbrev cX5_copyFrom : ByteArray := prog_7_method_4_code
def yX5_copyFrom : MethodName := ⟨RX5, "copyFrom", "(LNoiseShaper$Loop;)V"⟩
abbrev cX5_gapNow : ByteArray := prog_7_method_5_code
def yX5_gapNow : MethodName := ⟨RX5, "gapNow", "()J"⟩
abbrev cX5_advance : ByteArray := prog_7_method_6_code
def yX5_advance : MethodName := ⟨RX5, "advance", "(I)I"⟩
abbrev cX5_writeWords : ByteArray := prog_7_method_7_code
def yX5_writeWords : MethodName := ⟨RX5, "writeWords", "([II)V"⟩
abbrev cX5_outOf : ByteArray := prog_7_method_8_code
def yX5_outOf : MethodName := ⟨RX5, "outOf", "(I)I"⟩
abbrev cX5_outOfErrors : ByteArray := prog_7_method_9_code
def yX5_outOfErrors : MethodName := ⟨RX5, "outOfErrors", "(II)I"⟩
abbrev cX5_shapedErrors : ByteArray := prog_7_method_10_code
def yX5_shapedErrors : MethodName := ⟨RX5, "shapedErrors", "()I"⟩
abbrev cX5_outOfSums : ByteArray := prog_7_method_11_code
def yX5_outOfSums : MethodName := ⟨RX5, "outOfSums", "(II)I"⟩
abbrev cX5_outOfCascade : ByteArray := prog_7_method_12_code
def yX5_outOfCascade : MethodName := ⟨RX5, "outOfCascade", "(II)I"⟩
abbrev cX5_differenceOf : ByteArray := prog_7_method_13_code
def yX5_differenceOf : MethodName := ⟨RX5, "differenceOf", "(II)I"⟩
abbrev cX5_hold : ByteArray := prog_7_method_14_code
def yX5_hold : MethodName := ⟨RX5, "hold", "(I)I"⟩
abbrev cX5_drawDither : ByteArray := prog_7_method_15_code
def yX5_drawDither : MethodName := ⟨RX5, "drawDither", "()I"⟩
def RX6 : String := "NoiseShaper$LoopPlan"
def TX6 : u_T := fun k => match k with
  | 0 => ("NoiseShaper$LoopPlan", "kind", "I", false)
  | 1 => ("NoiseShaper$LoopPlan", "order", "I", false)
  | 2 => ("NoiseShaper$LoopPlan", "step", "I", false)
  | 3 => ("NoiseShaper$LoopPlan", "levels", "I", false)
  | 4 => ("NoiseShaper$LoopPlan", "limit", "I", false)
  | 5 => ("NoiseShaper$LoopPlan", "calm", "Z", false)
  | 6 => ("NoiseShaper$LoopPlan", "dither", "I", false)
  | _ => ("NoiseShaper$LoopPlan", "seed", "I", false)
def tyX6 : Nat → FieldType := fun k => match k with
  | 0 => .int
  | 1 => .int
  | 2 => .int
  | 3 => .int
  | 4 => .int
  | 5 => .boolean
  | 6 => .int
  | _ => .int
abbrev wsX60 : List Cond := u_ws RX6 TX6 8
theorem nmX6 : ∀ a, a < 8 → ∀ b, b < 8 → a ≠ b → (TX6 a).2.1 ≠ (TX6 b).2.1 := by decide +kernel
theorem tyX6_ok : ∀ k, k < 8 → parseFieldDescriptor (TX6 k).2.2.1 = some (tyX6 k) := by decide +kernel
abbrev cX6_init : ByteArray := prog_8_method_1_code
def yX6_init : MethodName := ⟨RX6, "<init>", "()V"⟩
abbrev cX6_copyFrom : ByteArray := prog_8_method_2_code
def yX6_copyFrom : MethodName := ⟨RX6, "copyFrom", "(LNoiseShaper$LoopPlan;)V"⟩
abbrev cX6_elementsOf : ByteArray := prog_8_method_3_code
def yX6_elementsOf : MethodName := ⟨RX6, "elementsOf", "(III)I"⟩
abbrev cX6_besides : ByteArray := prog_8_method_4_code
def yX6_besides : MethodName := ⟨RX6, "besides", "()I"⟩
abbrev cX6_valueOf : ByteArray := prog_8_method_5_code
def yX6_valueOf : MethodName := ⟨RX6, "valueOf", "(I)I"⟩
abbrev cX6_valueOfSmall : ByteArray := prog_8_method_6_code
def yX6_valueOfSmall : MethodName := ⟨RX6, "valueOfSmall", "(I)I"⟩
abbrev cX6_nearest : ByteArray := prog_8_method_7_code
def yX6_nearest : MethodName := ⟨RX6, "nearest", "(I)I"⟩
def RX7 : String := "NoiseShaper$Source"
def TX7 : u_T := fun k => match k with
  | 0 => ("NoiseShaper$Source", "kind", "I", false)
  | 1 => ("NoiseShaper$Source", "a", "I", false)
  | 2 => ("NoiseShaper$Source", "b", "I", false)
  | 3 => ("NoiseShaper$Source", "c", "I", false)
  | _ => ("NoiseShaper$Source", "samples", "[I", true)
def tyX7 : Nat → FieldType := fun k => match k with
  | 0 => .int
  | 1 => .int
  | 2 => .int
  | 3 => .int
  | _ => .array .int
abbrev wsX70 : List Cond := u_ws RX7 TX7 5
theorem nmX7 : ∀ a, a < 5 → ∀ b, b < 5 → a ≠ b → (TX7 a).2.1 ≠ (TX7 b).2.1 := by decide +kernel
theorem tyX7_ok : ∀ k, k < 5 → parseFieldDescriptor (TX7 k).2.2.1 = some (tyX7 k) := by decide +kernel
abbrev cX7_init : ByteArray := prog_9_method_1_code
def yX7_init : MethodName := ⟨RX7, "<init>", "()V"⟩
abbrev cX7_numberAt : ByteArray := prog_9_method_2_code
def yX7_numberAt : MethodName := ⟨RX7, "numberAt", "(I)I"⟩
abbrev cX7_numberUnbound : ByteArray := prog_9_method_3_code
def yX7_numberUnbound : MethodName := ⟨RX7, "numberUnbound", "(I)I"⟩
def RX8 : String := "NoiseShaper$Taps"
def TX8 : u_T := fun k => match k with
  | 0 => ("NoiseShaper$Taps", "toldTaps", "[I", true)
  | _ => ("NoiseShaper$Taps", "toldShift", "I", false)
def tyX8 : Nat → FieldType := fun k => match k with
  | 0 => .array .int
  | _ => .int
abbrev wsX80 : List Cond := u_ws RX8 TX8 2
theorem nmX8 : ∀ a, a < 2 → ∀ b, b < 2 → a ≠ b → (TX8 a).2.1 ≠ (TX8 b).2.1 := by decide +kernel
theorem tyX8_ok : ∀ k, k < 2 → parseFieldDescriptor (TX8 k).2.2.1 = some (tyX8 k) := by decide +kernel
abbrev cX8_init : ByteArray := prog_10_method_1_code
def yX8_init : MethodName := ⟨RX8, "<init>", "()V"⟩
abbrev cX8_isKind : ByteArray := prog_10_method_2_code
def yX8_isKind : MethodName := ⟨RX8, "isKind", "(I)Z"⟩
abbrev cX8_tell : ByteArray := prog_10_method_3_code
def yX8_tell : MethodName := ⟨RX8, "tell", "(IIIII)V"⟩
abbrev cX8_rowOf : ByteArray := prog_10_method_4_code
def yX8_rowOf : MethodName := ⟨RX8, "rowOf", "(I)[I"⟩
abbrev cX8_shiftOf : ByteArray := prog_10_method_5_code
def yX8_shiftOf : MethodName := ⟨RX8, "shiftOf", "(I)I"⟩
abbrev cX8_sumOf : ByteArray := prog_10_method_6_code
def yX8_sumOf : MethodName := ⟨RX8, "sumOf", "(I)I"⟩
abbrev cX8_isHalfBand : ByteArray := prog_10_method_7_code
def yX8_isHalfBand : MethodName := ⟨RX8, "isHalfBand", "(I)Z"⟩
abbrev cX8_plainOf : ByteArray := prog_10_method_8_code
def yX8_plainOf : MethodName := ⟨RX8, "plainOf", "(I)I"⟩
abbrev cX8_foldedOf : ByteArray := prog_10_method_9_code
def yX8_foldedOf : MethodName := ⟨RX8, "foldedOf", "(I)I"⟩
abbrev cX8_manyOf : ByteArray := prog_10_method_10_code
def yX8_manyOf : MethodName := ⟨RX8, "manyOf", "(II)I"⟩
def RX9 : String := "NoiseShaper$Tone"
def TX9 : u_T := fun k => match k with
  | 0 => ("NoiseShaper$Tone", "outs", "[I", true)
  | 1 => ("NoiseShaper$Tone", "states", "[I", true)
  | 2 => ("NoiseShaper$Tone", "cells", "[I", true)
  | 3 => ("NoiseShaper$Tone", "comesRound", "Z", false)
  | 4 => ("NoiseShaper$Tone", "lead", "I", false)
  | _ => ("NoiseShaper$Tone", "period", "I", false)
def tyX9 : Nat → FieldType := fun k => match k with
  | 0 => .array .int
  | 1 => .array .int
  | 2 => .array .int
  | 3 => .boolean
  | 4 => .int
  | _ => .int
abbrev wsX90 : List Cond := u_ws RX9 TX9 6
theorem nmX9 : ∀ a, a < 6 → ∀ b, b < 6 → a ≠ b → (TX9 a).2.1 ≠ (TX9 b).2.1 := by decide +kernel
theorem tyX9_ok : ∀ k, k < 6 → parseFieldDescriptor (TX9 k).2.2.1 = some (tyX9 k) := by decide +kernel
abbrev cX9_init : ByteArray := prog_11_method_1_code
def yX9_init : MethodName := ⟨RX9, "<init>", "()V"⟩
abbrev cX9_follow : ByteArray := prog_11_method_2_code
def yX9_follow : MethodName := ⟨RX9, "follow", "(LNoiseShaper$Loop;LNoiseShaper$LoopPlan;I)V"⟩
abbrev cX9_total : ByteArray := prog_11_method_3_code
def yX9_total : MethodName := ⟨RX9, "total", "()I"⟩
abbrev cX9_unlike : ByteArray := prog_11_method_4_code
def yX9_unlike : MethodName := ⟨RX9, "unlike", "()I"⟩
abbrev cX9_changes : ByteArray := prog_11_method_5_code
def yX9_changes : MethodName := ⟨RX9, "changes", "()I"⟩
abbrev cX9_longestRun : ByteArray := prog_11_method_6_code
def yX9_longestRun : MethodName := ⟨RX9, "longestRun", "()I"⟩
abbrev cX9_patternAt : ByteArray := prog_11_method_7_code
def yX9_patternAt : MethodName := ⟨RX9, "patternAt", "(I)I"⟩
abbrev cX9_findOrPut : ByteArray := prog_11_method_8_code
def yX9_findOrPut : MethodName := ⟨RX9, "findOrPut", "(I)I"⟩
abbrev cX9_cellOf : ByteArray := prog_11_method_9_code
def yX9_cellOf : MethodName := ⟨RX9, "cellOf", "(I)I"⟩
abbrev cX9_isSame : ByteArray := prog_11_method_10_code
def yX9_isSame : MethodName := ⟨RX9, "isSame", "(II)Z"⟩
def RX10 : String := "NoiseShaper"
def TX10 : u_T := fun k => match k with
  | 0 => ("NoiseShaper", "status", "I", false)
  | 1 => ("NoiseShaper", "clock", "I", false)
  | 2 => ("NoiseShaper", "manyFolds", "I", false)
  | 3 => ("NoiseShaper", "source", "LNoiseShaper$Source;", true)
  | 4 => ("NoiseShaper", "loop", "LNoiseShaper$Loop;", true)
  | 5 => ("NoiseShaper", "elements", "LNoiseShaper$Elements;", true)
  | 6 => ("NoiseShaper", "comb", "LNoiseShaper$Comb;", true)
  | 7 => ("NoiseShaper", "taps", "LNoiseShaper$Taps;", true)
  | 8 => ("NoiseShaper", "folds", "[LNoiseShaper$Fold;", true)
  | 9 => ("NoiseShaper", "latest", "[LNoiseShaper$Latest;", true)
  | 10 => ("NoiseShaper", "asked", "LNoiseShaper$Asked;", true)
  | 11 => ("NoiseShaper", "paperLoop", "LNoiseShaper$Loop;", true)
  | 12 => ("NoiseShaper", "paperElements", "LNoiseShaper$Elements;", true)
  | _ => ("NoiseShaper", "tone", "LNoiseShaper$Tone;", true)
def tyX10 : Nat → FieldType := fun k => match k with
  | 0 => .int
  | 1 => .int
  | 2 => .int
  | 3 => .object "NoiseShaper$Source"
  | 4 => .object "NoiseShaper$Loop"
  | 5 => .object "NoiseShaper$Elements"
  | 6 => .object "NoiseShaper$Comb"
  | 7 => .object "NoiseShaper$Taps"
  | 8 => .array (.object "NoiseShaper$Fold")
  | 9 => .array (.object "NoiseShaper$Latest")
  | 10 => .object "NoiseShaper$Asked"
  | 11 => .object "NoiseShaper$Loop"
  | 12 => .object "NoiseShaper$Elements"
  | _ => .object "NoiseShaper$Tone"
abbrev wsX100 : List Cond := u_ws RX10 TX10 14
theorem nmX10 : ∀ a, a < 14 → ∀ b, b < 14 → a ≠ b → (TX10 a).2.1 ≠ (TX10 b).2.1 := by decide +kernel
theorem tyX10_ok : ∀ k, k < 14 → parseFieldDescriptor (TX10 k).2.2.1 = some (tyX10 k) := by decide +kernel
abbrev cX10_init : ByteArray := prog_1_method_1_code
def yX10_init : MethodName := ⟨RX10, "<init>", "()V"⟩
abbrev cX10_status : ByteArray := prog_1_method_2_code
def yX10_status : MethodName := ⟨RX10, "status", "()I"⟩
abbrev cX10_source : ByteArray := prog_1_method_3_code
def yX10_source : MethodName := ⟨RX10, "source", "(IIII)I"⟩
abbrev cX10_sample : ByteArray := prog_1_method_4_code
def yX10_sample : MethodName := ⟨RX10, "sample", "(II)I"⟩
abbrev cX10_loop : ByteArray := prog_1_method_5_code
def yX10_loop : MethodName := ⟨RX10, "loop", "(IIIIIZ)I"⟩
abbrev cX10_dither : ByteArray := prog_1_method_6_code
def yX10_dither : MethodName := ⟨RX10, "dither", "(II)I"⟩
abbrev cX10_way : ByteArray := prog_1_method_7_code
def yX10_way : MethodName := ⟨RX10, "way", "(I)I"⟩
abbrev cX10_deviation : ByteArray := prog_1_method_8_code
def yX10_deviation : MethodName := ⟨RX10, "deviation", "(II)I"⟩
abbrev cX10_comb : ByteArray := prog_1_method_9_code
def yX10_comb : MethodName := ⟨RX10, "comb", "(IIII)I"⟩
abbrev cX10_taps : ByteArray := prog_1_method_10_code
def yX10_taps : MethodName := ⟨RX10, "taps", "(IIIII)I"⟩
abbrev cX10_folds : ByteArray := prog_1_method_11_code
def yX10_folds : MethodName := ⟨RX10, "folds", "(IIII)I"⟩
abbrev cX10_anew : ByteArray := prog_1_method_12_code
def yX10_anew : MethodName := ⟨RX10, "anew", "(I)I"⟩
abbrev cX10_clocks : ByteArray := prog_1_method_13_code
def yX10_clocks : MethodName := ⟨RX10, "clocks", "(I)I"⟩
abbrev cX10_told : ByteArray := prog_1_method_14_code
def yX10_told : MethodName := ⟨RX10, "told", "(I)I"⟩
abbrev cX10_latest : ByteArray := prog_1_method_15_code
def yX10_latest : MethodName := ⟨RX10, "latest", "(II)I"⟩
abbrev cX10_state : ByteArray := prog_1_method_16_code
def yX10_state : MethodName := ⟨RX10, "state", "(I)I"⟩
abbrev cX10_sum : ByteArray := prog_1_method_17_code
def yX10_sum : MethodName := ⟨RX10, "sum", "(I)J"⟩
abbrev cX10_gap : ByteArray := prog_1_method_18_code
def yX10_gap : MethodName := ⟨RX10, "gap", "(II)J"⟩
abbrev cX10_range : ByteArray := prog_1_method_19_code
def yX10_range : MethodName := ⟨RX10, "range", "(II)J"⟩
abbrev cX10_steady : ByteArray := prog_1_method_20_code
def yX10_steady : MethodName := ⟨RX10, "steady", "(II)I"⟩
abbrev cX10_element : ByteArray := prog_1_method_21_code
def yX10_element : MethodName := ⟨RX10, "element", "(II)I"⟩
abbrev cX10_spread : ByteArray := prog_1_method_22_code
def yX10_spread : MethodName := ⟨RX10, "spread", "()I"⟩
abbrev cX10_combed : ByteArray := prog_1_method_23_code
def yX10_combed : MethodName := ⟨RX10, "combed", "(I)I"⟩
abbrev cX10_wrong : ByteArray := prog_1_method_24_code
def yX10_wrong : MethodName := ⟨RX10, "wrong", "(I)J"⟩
abbrev cX10_work : ByteArray := prog_1_method_25_code
def yX10_work : MethodName := ⟨RX10, "work", "(II)I"⟩
abbrev cX10_need : ByteArray := prog_1_method_26_code
def yX10_need : MethodName := ⟨RX10, "need", "(I)I"⟩
abbrev cX10_response : ByteArray := prog_1_method_27_code
def yX10_response : MethodName := ⟨RX10, "response", "(I)I"⟩
abbrev cX10_half : ByteArray := prog_1_method_28_code
def yX10_half : MethodName := ⟨RX10, "half", "(II)I"⟩
abbrev cX10_beat : ByteArray := prog_1_method_29_code
def yX10_beat : MethodName := ⟨RX10, "beat", "(II)J"⟩
abbrev cX10_tonal : ByteArray := prog_1_method_30_code
def yX10_tonal : MethodName := ⟨RX10, "tonal", "(I)I"⟩
abbrev cX10_tone : ByteArray := prog_1_method_31_code
def yX10_tone : MethodName := ⟨RX10, "tone", "(II)I"⟩
abbrev cX10_out : ByteArray := prog_1_method_32_code
def yX10_out : MethodName := ⟨RX10, "out", "(II)I"⟩
abbrev cX10_asked : ByteArray := prog_1_method_33_code
def yX10_asked : MethodName := ⟨RX10, "asked", "(I)I"⟩
abbrev cX10_idle : ByteArray := prog_1_method_34_code
def yX10_idle : MethodName := ⟨RX10, "idle", "(IIII)I"⟩
abbrev cX10_next : ByteArray := prog_1_method_35_code
def yX10_next : MethodName := ⟨RX10, "next", "(I)I"⟩
abbrev cX10_ahead : ByteArray := prog_1_method_36_code
def yX10_ahead : MethodName := ⟨RX10, "ahead", "(III)J"⟩
abbrev cX10_strain : ByteArray := prog_1_method_37_code
def yX10_strain : MethodName := ⟨RX10, "strain", "(II)I"⟩
abbrev cX10_calmed : ByteArray := prog_1_method_38_code
def yX10_calmed : MethodName := ⟨RX10, "calmed", "(II)I"⟩
abbrev cX10_refuse : ByteArray := prog_1_method_39_code
def yX10_refuse : MethodName := ⟨RX10, "refuse", "(I)I"⟩
abbrev cX10_answer : ByteArray := prog_1_method_40_code
def yX10_answer : MethodName := ⟨RX10, "answer", "(I)I"⟩
abbrev cX10_answerLong : ByteArray := prog_1_method_41_code
def yX10_answerLong : MethodName := ⟨RX10, "answerLong", "(J)J"⟩
abbrev cX10_within : ByteArray := prog_1_method_42_code
def yX10_within : MethodName := ⟨RX10, "within", "(III)Z"⟩
abbrev cX10_isNumber : ByteArray := prog_1_method_43_code
def yX10_isNumber : MethodName := ⟨RX10, "isNumber", "(I)Z"⟩
abbrev cX10_isTap : ByteArray := prog_1_method_44_code
def yX10_isTap : MethodName := ⟨RX10, "isTap", "(I)Z"⟩
abbrev cX10_isStage : ByteArray := prog_1_method_45_code
def yX10_isStage : MethodName := ⟨RX10, "isStage", "(I)Z"⟩
abbrev cX10_putTo : ByteArray := prog_1_method_46_code
def yX10_putTo : MethodName := ⟨RX10, "putTo", "(II)I"⟩
abbrev cX10_beginAnewFrom : ByteArray := prog_1_method_47_code
def yX10_beginAnewFrom : MethodName := ⟨RX10, "beginAnewFrom", "(I)V"⟩
abbrev cX10_oneClock : ByteArray := prog_1_method_48_code
def yX10_oneClock : MethodName := ⟨RX10, "oneClock", "()V"⟩
abbrev cX10_handToFolds : ByteArray := prog_1_method_49_code
def yX10_handToFolds : MethodName := ⟨RX10, "handToFolds", "(I)V"⟩
abbrev cX10_keptByLoop : ByteArray := prog_1_method_50_code
def yX10_keptByLoop : MethodName := ⟨RX10, "keptByLoop", "()I"⟩
abbrev cX10_greatestGapOf : ByteArray := prog_1_method_51_code
def yX10_greatestGapOf : MethodName := ⟨RX10, "greatestGapOf", "(I)J"⟩
abbrev cX10_hitClocksAhead : ByteArray := prog_1_method_52_code
def yX10_hitClocksAhead : MethodName := ⟨RX10, "hitClocksAhead", "(II)I"⟩
def RX11 : String := "NoiseShaperModel"
def TX11 : u_T := fun k => match k with
  | 0 => ("NoiseShaperModel", "run", "[J", true)
  | 1 => ("NoiseShaperModel", "aside", "[J", true)
  | 2 => ("NoiseShaperModel", "status", "I", false)
  | 3 => ("NoiseShaperModel", "kind", "I", false)
  | 4 => ("NoiseShaperModel", "a", "I", false)
  | 5 => ("NoiseShaperModel", "b", "I", false)
  | 6 => ("NoiseShaperModel", "c", "I", false)
  | 7 => ("NoiseShaperModel", "loop", "I", false)
  | 8 => ("NoiseShaperModel", "order", "I", false)
  | 9 => ("NoiseShaperModel", "step", "I", false)
  | 10 => ("NoiseShaperModel", "levels", "I", false)
  | 11 => ("NoiseShaperModel", "limit", "I", false)
  | 12 => ("NoiseShaperModel", "dither", "I", false)
  | 13 => ("NoiseShaperModel", "seed", "I", false)
  | 14 => ("NoiseShaperModel", "isCalm", "Z", false)
  | 15 => ("NoiseShaperModel", "way", "I", false)
  | 16 => ("NoiseShaperModel", "combOrder", "I", false)
  | 17 => ("NoiseShaperModel", "ratio", "I", false)
  | 18 => ("NoiseShaperModel", "width", "I", false)
  | 19 => ("NoiseShaperModel", "in", "I", false)
  | 20 => ("NoiseShaperModel", "folds", "I", false)
  | 21 => ("NoiseShaperModel", "tapShift", "I", false)
  | 22 => ("NoiseShaperModel", "samples", "[I", true)
  | 23 => ("NoiseShaperModel", "deviations", "[I", true)
  | 24 => ("NoiseShaperModel", "foldTaps", "[I", true)
  | 25 => ("NoiseShaperModel", "ownTaps", "[I", true)
  | 26 => ("NoiseShaperModel", "ones", "[I", true)
  | 27 => ("NoiseShaperModel", "folded", "[I", true)
  | 28 => ("NoiseShaperModel", "states", "[J", true)
  | 29 => ("NoiseShaperModel", "outs", "[I", true)
  | 30 => ("NoiseShaperModel", "lead", "I", false)
  | 31 => ("NoiseShaperModel", "period", "I", false)
  | 32 => ("NoiseShaperModel", "asked", "[I", true)
  | 33 => ("NoiseShaperModel", "askedMany", "I", false)
  | _ => ("NoiseShaperModel", "trial", "[J", true)
def tyX11 : Nat → FieldType := fun k => match k with
  | 0 => .array .long
  | 1 => .array .long
  | 2 => .int
  | 3 => .int
  | 4 => .int
  | 5 => .int
  | 6 => .int
  | 7 => .int
  | 8 => .int
  | 9 => .int
  | 10 => .int
  | 11 => .int
  | 12 => .int
  | 13 => .int
  | 14 => .boolean
  | 15 => .int
  | 16 => .int
  | 17 => .int
  | 18 => .int
  | 19 => .int
  | 20 => .int
  | 21 => .int
  | 22 => .array .int
  | 23 => .array .int
  | 24 => .array .int
  | 25 => .array .int
  | 26 => .array .int
  | 27 => .array .int
  | 28 => .array .long
  | 29 => .array .int
  | 30 => .int
  | 31 => .int
  | 32 => .array .int
  | 33 => .int
  | _ => .array .long
abbrev wsX110 : List Cond := u_ws RX11 TX11 35
theorem nmX11 : ∀ a, a < 35 → ∀ b, b < 35 → a ≠ b → (TX11 a).2.1 ≠ (TX11 b).2.1 := by decide +kernel
theorem tyX11_ok : ∀ k, k < 35 → parseFieldDescriptor (TX11 k).2.2.1 = some (tyX11 k) := by decide +kernel
abbrev cX11_init : ByteArray := prog_13_method_1_code
def yX11_init : MethodName := ⟨RX11, "<init>", "()V"⟩
abbrev cX11_status : ByteArray := prog_13_method_2_code
def yX11_status : MethodName := ⟨RX11, "status", "()I"⟩
abbrev cX11_refuse : ByteArray := prog_13_method_3_code
def yX11_refuse : MethodName := ⟨RX11, "refuse", "(I)I"⟩
abbrev cX11_gives : ByteArray := prog_13_method_4_code
def yX11_gives : MethodName := ⟨RX11, "gives", "(I)I"⟩
abbrev cX11_givesLong : ByteArray := prog_13_method_5_code
def yX11_givesLong : MethodName := ⟨RX11, "givesLong", "(J)J"⟩
abbrev cX11_isFrom : ByteArray := prog_13_method_6_code
def yX11_isFrom : MethodName := ⟨RX11, "isFrom", "(III)Z"⟩
abbrev cX11_isFar : ByteArray := prog_13_method_7_code
def yX11_isFar : MethodName := ⟨RX11, "isFar", "(I)Z"⟩
abbrev cX11_get : ByteArray := prog_13_method_8_code
def yX11_get : MethodName := ⟨RX11, "get", "(I)I"⟩
abbrev cX11_copies : ByteArray := prog_13_method_9_code
def yX11_copies : MethodName := ⟨RX11, "copies", "([J[J)V"⟩
abbrev cX11_wipes : ByteArray := prog_13_method_10_code
def yX11_wipes : MethodName := ⟨RX11, "wipes", "(II)V"⟩
abbrev cX11_begins : ByteArray := prog_13_method_11_code
def yX11_begins : MethodName := ⟨RX11, "begins", "(I)V"⟩
abbrev cX11_beginsLoop : ByteArray := prog_13_method_12_code
def yX11_beginsLoop : MethodName := ⟨RX11, "beginsLoop", "()V"⟩
abbrev cX11_beginsElements : ByteArray := prog_13_method_13_code
def yX11_beginsElements : MethodName := ⟨RX11, "beginsElements", "()V"⟩
abbrev cX11_elements : ByteArray := prog_13_method_14_code
def yX11_elements : MethodName := ⟨RX11, "elements", "()I"⟩
abbrev cX11_besides : ByteArray := prog_13_method_15_code
def yX11_besides : MethodName := ⟨RX11, "besides", "()I"⟩
abbrev cX11_weight : ByteArray := prog_13_method_16_code
def yX11_weight : MethodName := ⟨RX11, "weight", "(I)I"⟩
abbrev cX11_weights : ByteArray := prog_13_method_17_code
def yX11_weights : MethodName := ⟨RX11, "weights", "()I"⟩
abbrev cX11_tells : ByteArray := prog_13_method_18_code
def yX11_tells : MethodName := ⟨RX11, "tells", "(IJ)V"⟩
abbrev cX11_many : ByteArray := prog_13_method_19_code
def yX11_many : MethodName := ⟨RX11, "many", "(I)I"⟩
abbrev cX11_latestOf : ByteArray := prog_13_method_20_code
def yX11_latestOf : MethodName := ⟨RX11, "latestOf", "(II)J"⟩
abbrev cX11_sourceAt : ByteArray := prog_13_method_21_code
def yX11_sourceAt : MethodName := ⟨RX11, "sourceAt", "(I)I"⟩
abbrev cX11_valueOf : ByteArray := prog_13_method_22_code
def yX11_valueOf : MethodName := ⟨RX11, "valueOf", "(I)I"⟩
abbrev cX11_nearest : ByteArray := prog_13_method_23_code
def yX11_nearest : MethodName := ⟨RX11, "nearest", "(I)I"⟩
abbrev cX11_held : ByteArray := prog_13_method_24_code
def yX11_held : MethodName := ⟨RX11, "held", "(I)I"⟩
abbrev cX11_drawn : ByteArray := prog_13_method_25_code
def yX11_drawn : MethodName := ⟨RX11, "drawn", "()I"⟩
abbrev cX11_loops : ByteArray := prog_13_method_26_code
def yX11_loops : MethodName := ⟨RX11, "loops", "(II)I"⟩
abbrev cX11_byErrors : ByteArray := prog_13_method_27_code
def yX11_byErrors : MethodName := ⟨RX11, "byErrors", "(II)I"⟩
abbrev cX11_bySums : ByteArray := prog_13_method_28_code
def yX11_bySums : MethodName := ⟨RX11, "bySums", "(II)I"⟩
abbrev cX11_byCascade : ByteArray := prog_13_method_29_code
def yX11_byCascade : MethodName := ⟨RX11, "byCascade", "(II)I"⟩
abbrev cX11_wouldBeOn : ByteArray := prog_13_method_30_code
def yX11_wouldBeOn : MethodName := ⟨RX11, "wouldBeOn", "(I)I"⟩
abbrev cX11_bounded : ByteArray := prog_13_method_31_code
def yX11_bounded : MethodName := ⟨RX11, "bounded", "(J)J"⟩
abbrev cX11_goesElements : ByteArray := prog_13_method_32_code
def yX11_goesElements : MethodName := ⟨RX11, "goesElements", "(I)I"⟩
abbrev cX11_worded : ByteArray := prog_13_method_33_code
def yX11_worded : MethodName := ⟨RX11, "worded", "(J)J"⟩
abbrev cX11_combs : ByteArray := prog_13_method_34_code
def yX11_combs : MethodName := ⟨RX11, "combs", "(J)Z"⟩
abbrev cX11_tapMany : ByteArray := prog_13_method_35_code
def yX11_tapMany : MethodName := ⟨RX11, "tapMany", "(I)I"⟩
abbrev cX11_tapOf : ByteArray := prog_13_method_36_code
def yX11_tapOf : MethodName := ⟨RX11, "tapOf", "(II)I"⟩
abbrev cX11_shiftOf : ByteArray := prog_13_method_37_code
def yX11_shiftOf : MethodName := ⟨RX11, "shiftOf", "(I)I"⟩
abbrev cX11_folds : ByteArray := prog_13_method_38_code
def yX11_folds : MethodName := ⟨RX11, "folds", "(IJ)Z"⟩
abbrev cX11_goes : ByteArray := prog_13_method_39_code
def yX11_goes : MethodName := ⟨RX11, "goes", "()V"⟩
abbrev cX11_source : ByteArray := prog_13_method_40_code
def yX11_source : MethodName := ⟨RX11, "source", "(IIII)I"⟩
abbrev cX11_sample : ByteArray := prog_13_method_41_code
def yX11_sample : MethodName := ⟨RX11, "sample", "(II)I"⟩
abbrev cX11_loop : ByteArray := prog_13_method_42_code
def yX11_loop : MethodName := ⟨RX11, "loop", "(IIIIIZ)I"⟩
abbrev cX11_dither : ByteArray := prog_13_method_43_code
def yX11_dither : MethodName := ⟨RX11, "dither", "(II)I"⟩
abbrev cX11_way : ByteArray := prog_13_method_44_code
def yX11_way : MethodName := ⟨RX11, "way", "(I)I"⟩
abbrev cX11_deviation : ByteArray := prog_13_method_45_code
def yX11_deviation : MethodName := ⟨RX11, "deviation", "(II)I"⟩
abbrev cX11_comb : ByteArray := prog_13_method_46_code
def yX11_comb : MethodName := ⟨RX11, "comb", "(IIII)I"⟩
abbrev cX11_taps : ByteArray := prog_13_method_47_code
def yX11_taps : MethodName := ⟨RX11, "taps", "(IIIII)I"⟩
abbrev cX11_isTap : ByteArray := prog_13_method_48_code
def yX11_isTap : MethodName := ⟨RX11, "isTap", "(I)Z"⟩
abbrev cX11_folds_ : ByteArray := prog_13_method_49_code
def yX11_folds_ : MethodName := ⟨RX11, "folds", "(IIII)I"⟩
abbrev cX11_isStage : ByteArray := prog_13_method_50_code
def yX11_isStage : MethodName := ⟨RX11, "isStage", "(I)Z"⟩
abbrev cX11_anew : ByteArray := prog_13_method_51_code
def yX11_anew : MethodName := ⟨RX11, "anew", "(I)I"⟩
abbrev cX11_clocks : ByteArray := prog_13_method_52_code
def yX11_clocks : MethodName := ⟨RX11, "clocks", "(I)I"⟩
abbrev cX11_told : ByteArray := prog_13_method_53_code
def yX11_told : MethodName := ⟨RX11, "told", "(I)I"⟩
abbrev cX11_latest : ByteArray := prog_13_method_54_code
def yX11_latest : MethodName := ⟨RX11, "latest", "(II)I"⟩
abbrev cX11_state : ByteArray := prog_13_method_55_code
def yX11_state : MethodName := ⟨RX11, "state", "(I)I"⟩
abbrev cX11_sum : ByteArray := prog_13_method_56_code
def yX11_sum : MethodName := ⟨RX11, "sum", "(I)J"⟩
abbrev cX11_gap : ByteArray := prog_13_method_57_code
def yX11_gap : MethodName := ⟨RX11, "gap", "(II)J"⟩
abbrev cX11_range : ByteArray := prog_13_method_58_code
def yX11_range : MethodName := ⟨RX11, "range", "(II)J"⟩
abbrev cX11_steady : ByteArray := prog_13_method_59_code
def yX11_steady : MethodName := ⟨RX11, "steady", "(II)I"⟩
abbrev cX11_element : ByteArray := prog_13_method_60_code
def yX11_element : MethodName := ⟨RX11, "element", "(II)I"⟩
abbrev cX11_spreadNow : ByteArray := prog_13_method_61_code
def yX11_spreadNow : MethodName := ⟨RX11, "spreadNow", "()I"⟩
abbrev cX11_spread : ByteArray := prog_13_method_62_code
def yX11_spread : MethodName := ⟨RX11, "spread", "()I"⟩
abbrev cX11_combed : ByteArray := prog_13_method_63_code
def yX11_combed : MethodName := ⟨RX11, "combed", "(I)I"⟩
abbrev cX11_wrong : ByteArray := prog_13_method_64_code
def yX11_wrong : MethodName := ⟨RX11, "wrong", "(I)J"⟩
abbrev cX11_unlikeNone : ByteArray := prog_13_method_65_code
def yX11_unlikeNone : MethodName := ⟨RX11, "unlikeNone", "(I)I"⟩
abbrev cX11_work : ByteArray := prog_13_method_66_code
def yX11_work : MethodName := ⟨RX11, "work", "(II)I"⟩
abbrev cX11_needFor : ByteArray := prog_13_method_67_code
def yX11_needFor : MethodName := ⟨RX11, "needFor", "(I)I"⟩
abbrev cX11_need : ByteArray := prog_13_method_68_code
def yX11_need : MethodName := ⟨RX11, "need", "(I)I"⟩
abbrev cX11_response : ByteArray := prog_13_method_69_code
def yX11_response : MethodName := ⟨RX11, "response", "(I)I"⟩
abbrev cX11_half : ByteArray := prog_13_method_70_code
def yX11_half : MethodName := ⟨RX11, "half", "(II)I"⟩
abbrev cX11_beatOf : ByteArray := prog_13_method_71_code
def yX11_beatOf : MethodName := ⟨RX11, "beatOf", "(II)J"⟩
abbrev cX11_beat : ByteArray := prog_13_method_72_code
def yX11_beat : MethodName := ⟨RX11, "beat", "(II)J"⟩
abbrev cX11_tonal : ByteArray := prog_13_method_73_code
def yX11_tonal : MethodName := ⟨RX11, "tonal", "(I)I"⟩
abbrev cX11_lays : ByteArray := prog_13_method_74_code
def yX11_lays : MethodName := ⟨RX11, "lays", "(I)V"⟩
abbrev cX11_isLike : ByteArray := prog_13_method_75_code
def yX11_isLike : MethodName := ⟨RX11, "isLike", "(II)Z"⟩
abbrev cX11_tones : ByteArray := prog_13_method_76_code
def yX11_tones : MethodName := ⟨RX11, "tones", "(IZ)V"⟩
abbrev cX11_asks : ByteArray := prog_13_method_77_code
def yX11_asks : MethodName := ⟨RX11, "asks", "(I)V"⟩
abbrev cX11_inPattern : ByteArray := prog_13_method_78_code
def yX11_inPattern : MethodName := ⟨RX11, "inPattern", "(I)I"⟩
abbrev cX11_ofPattern : ByteArray := prog_13_method_79_code
def yX11_ofPattern : MethodName := ⟨RX11, "ofPattern", "(I)I"⟩
abbrev cX11_tone : ByteArray := prog_13_method_80_code
def yX11_tone : MethodName := ⟨RX11, "tone", "(II)I"⟩
abbrev cX11_out : ByteArray := prog_13_method_81_code
def yX11_out : MethodName := ⟨RX11, "out", "(II)I"⟩
abbrev cX11_asked : ByteArray := prog_13_method_82_code
def yX11_asked : MethodName := ⟨RX11, "asked", "(I)I"⟩
abbrev cX11_idle : ByteArray := prog_13_method_83_code
def yX11_idle : MethodName := ⟨RX11, "idle", "(IIII)I"⟩
abbrev cX11_next : ByteArray := prog_13_method_84_code
def yX11_next : MethodName := ⟨RX11, "next", "(I)I"⟩
abbrev cX11_ahead : ByteArray := prog_13_method_85_code
def yX11_ahead : MethodName := ⟨RX11, "ahead", "(III)J"⟩
abbrev cX11_strained : ByteArray := prog_13_method_86_code
def yX11_strained : MethodName := ⟨RX11, "strained", "(II)I"⟩
abbrev cX11_strain : ByteArray := prog_13_method_87_code
def yX11_strain : MethodName := ⟨RX11, "strain", "(II)I"⟩
abbrev cX11_calmed : ByteArray := prog_13_method_88_code
def yX11_calmed : MethodName := ⟨RX11, "calmed", "(II)I"⟩
def RJ6 : String := "java/lang/Integer"
def TJ6 : u_T := fun k => match k with
  | _ => ("", "", "", false)
def tyJ6 : Nat → FieldType := fun k => match k with
  | _ => .int
abbrev wsJ60 : List Cond := u_ws RJ6 TJ6 0
theorem nmJ6 : ∀ a, a < 0 → ∀ b, b < 0 → a ≠ b → (TJ6 a).2.1 ≠ (TJ6 b).2.1 := by decide +kernel
theorem tyJ6_ok : ∀ k, k < 0 → parseFieldDescriptor (TJ6 k).2.2.1 = some (tyJ6 k) := by decide +kernel
abbrev cJ6_bitCount_0f7a4 : ByteArray := prog_14_method_49_code
def yJ6_bitCount_0f7a4 : MethodName := ⟨RJ6, "bitCount", "(I)I"⟩
def RJ9 : String := "java/lang/Math"
def TJ9 : u_T := fun k => match k with
  | _ => ("", "", "", false)
def tyJ9 : Nat → FieldType := fun k => match k with
  | _ => .int
abbrev wsJ90 : List Cond := u_ws RJ9 TJ9 0
theorem nmJ9 : ∀ a, a < 0 → ∀ b, b < 0 → a ≠ b → (TJ9 a).2.1 ≠ (TJ9 b).2.1 := by decide +kernel
theorem tyJ9_ok : ∀ k, k < 0 → parseFieldDescriptor (TJ9 k).2.2.1 = some (tyJ9 k) := by decide +kernel
abbrev cJ9_floorDiv_7cf53 : ByteArray := prog_15_method_47_code
def yJ9_floorDiv_7cf53 : MethodName := ⟨RJ9, "floorDiv", "(II)I"⟩
abbrev cJ9_floorMod_7cf53 : ByteArray := prog_15_method_50_code
def yJ9_floorMod_7cf53 : MethodName := ⟨RJ9, "floorMod", "(II)I"⟩
abbrev cJ9_abs_0f7a4 : ByteArray := prog_15_method_59_code
def yJ9_abs_0f7a4 : MethodName := ⟨RJ9, "abs", "(I)I"⟩
abbrev cJ9_abs_067f4 : ByteArray := prog_15_method_61_code
def yJ9_abs_067f4 : MethodName := ⟨RJ9, "abs", "(J)J"⟩
abbrev cJ9_max_7cf53 : ByteArray := prog_15_method_65_code
def yJ9_max_7cf53 : MethodName := ⟨RJ9, "max", "(II)I"⟩
abbrev cJ9_max_f86c9 : ByteArray := prog_15_method_66_code
def yJ9_max_f86c9 : MethodName := ⟨RJ9, "max", "(JJ)J"⟩
abbrev cJ9_min_7cf53 : ByteArray := prog_15_method_69_code
def yJ9_min_7cf53 : MethodName := ⟨RJ9, "min", "(II)I"⟩
abbrev cJ9_min_f86c9 : ByteArray := prog_15_method_70_code
def yJ9_min_f86c9 : MethodName := ⟨RJ9, "min", "(JJ)J"⟩
def RJ10 : String := "java/lang/System"
def TJ10 : u_T := fun k => match k with
  | _ => ("", "", "", false)
def tyJ10 : Nat → FieldType := fun k => match k with
  | _ => .int
abbrev wsJ100 : List Cond := u_ws RJ10 TJ10 0
theorem nmJ10 : ∀ a, a < 0 → ∀ b, b < 0 → a ≠ b → (TJ10 a).2.1 ≠ (TJ10 b).2.1 := by decide +kernel
theorem tyJ10_ok : ∀ k, k < 0 → parseFieldDescriptor (TJ10 k).2.2.1 = some (tyJ10 k) := by decide +kernel
def RJ7 : String := "java/util/Arrays"
def TJ7 : u_T := fun k => match k with
  | _ => ("", "", "", false)
def tyJ7 : Nat → FieldType := fun k => match k with
  | _ => .int
abbrev wsJ70 : List Cond := u_ws RJ7 TJ7 0
theorem nmJ7 : ∀ a, a < 0 → ∀ b, b < 0 → a ≠ b → (TJ7 a).2.1 ≠ (TJ7 b).2.1 := by decide +kernel
theorem tyJ7_ok : ∀ k, k < 0 → parseFieldDescriptor (TJ7 k).2.2.1 = some (tyJ7 k) := by decide +kernel
abbrev cJ7_fill_d0a16 : ByteArray := prog_17_method_101_code
def yJ7_fill_d0a16 : MethodName := ⟨RJ7, "fill", "([JJ)V"⟩
abbrev cJ7_fill_53178 : ByteArray := prog_17_method_103_code
def yJ7_fill_53178 : MethodName := ⟨RJ7, "fill", "([II)V"⟩
def RL : String := "NoiseShaperLaw"
abbrev cL_law : ByteArray := code
def yL_law : MethodName := ⟨RL, "law", "([I)Z"⟩
abbrev vwCl : List vw_C := [(RX0, TX0, 2), (RX1, TX1, 10), (RX2, TX2, 11), (RX3, TX3, 4), (RX4, TX4, 4), (RX5, TX5, 14), (RX6, TX6, 8), (RX7, TX7, 5), (RX8, TX8, 2), (RX9, TX9, 6), (RX10, TX10, 14), (RX11, TX11, 35)]
theorem inX0 : ∀ w ∈ wsX00, w ∈ lw_tbl := by decide +kernel
theorem inX1 : ∀ w ∈ wsX10, w ∈ lw_tbl := by decide +kernel
theorem inX2 : ∀ w ∈ wsX20, w ∈ lw_tbl := by decide +kernel
theorem inX3 : ∀ w ∈ wsX30, w ∈ lw_tbl := by decide +kernel
theorem inX4 : ∀ w ∈ wsX40, w ∈ lw_tbl := by decide +kernel
theorem inX5 : ∀ w ∈ wsX50, w ∈ lw_tbl := by decide +kernel
theorem inX6 : ∀ w ∈ wsX60, w ∈ lw_tbl := by decide +kernel
theorem inX7 : ∀ w ∈ wsX70, w ∈ lw_tbl := by decide +kernel
theorem inX8 : ∀ w ∈ wsX80, w ∈ lw_tbl := by decide +kernel
theorem inX9 : ∀ w ∈ wsX90, w ∈ lw_tbl := by decide +kernel
theorem inX10 : ∀ w ∈ wsX100, w ∈ lw_tbl := by decide +kernel
theorem inX11 : ∀ w ∈ wsX110, w ∈ lw_tbl := by decide +kernel
