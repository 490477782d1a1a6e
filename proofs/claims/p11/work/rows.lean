section
-- ===== PART A: goes FIRST, ahead of the names: the tables' words, and 'selects' of the private methods out of them =====
/-- a private method of a class that the tables say can be made, by its rows of tables_1 -/
def lw_okq (q : MethodName × Nat) : Prop := (q.1.cls ≠ "java/lang/invoke/MethodHandle" ∧ q.1.cls ≠ "java/lang/invoke/VarHandle") ∧ Cond.instantiable q.1.cls q.2 ∈ tables_1 ∧ Cond.privateMethod q.1 ∈ tables_1 ∧ Cond.instanceMethod q.1 ∈ tables_1
theorem lw_p0 : lw_okq (⟨"NoiseShaper", "refuse", "(I)I"⟩, 14) := ⟨⟨by decide +kernel, by decide +kernel⟩, List.mem_of_getElem? (i := 18) (by decide +kernel), List.mem_of_getElem? (i := 412) (by decide +kernel), List.mem_of_getElem? (i := 413) (by decide +kernel)⟩
theorem lw_p1 : lw_okq (⟨"NoiseShaper", "beginAnewFrom", "(I)V"⟩, 14) := ⟨⟨by decide +kernel, by decide +kernel⟩, List.mem_of_getElem? (i := 18) (by decide +kernel), List.mem_of_getElem? (i := 416) (by decide +kernel), List.mem_of_getElem? (i := 417) (by decide +kernel)⟩
theorem lw_p2 : lw_okq (⟨"NoiseShaper", "answer", "(I)I"⟩, 14) := ⟨⟨by decide +kernel, by decide +kernel⟩, List.mem_of_getElem? (i := 18) (by decide +kernel), List.mem_of_getElem? (i := 448) (by decide +kernel), List.mem_of_getElem? (i := 449) (by decide +kernel)⟩
theorem lw_p3 : lw_okq (⟨"NoiseShaper$Elements", "weightsOf", "(I)I"⟩, 11) := ⟨⟨by decide +kernel, by decide +kernel⟩, List.mem_of_getElem? (i := 161) (by decide +kernel), List.mem_of_getElem? (i := 488) (by decide +kernel), List.mem_of_getElem? (i := 489) (by decide +kernel)⟩
theorem lw_p4 : lw_okq (⟨"NoiseShaper", "oneClock", "()V"⟩, 14) := ⟨⟨by decide +kernel, by decide +kernel⟩, List.mem_of_getElem? (i := 18) (by decide +kernel), List.mem_of_getElem? (i := 544) (by decide +kernel), List.mem_of_getElem? (i := 545) (by decide +kernel)⟩
theorem lw_p5 : lw_okq (⟨"NoiseShaper$Source", "numberUnbound", "(I)I"⟩, 5) := ⟨⟨by decide +kernel, by decide +kernel⟩, List.mem_of_getElem? (i := 26) (by decide +kernel), List.mem_of_getElem? (i := 552) (by decide +kernel), List.mem_of_getElem? (i := 553) (by decide +kernel)⟩
theorem lw_p6 : lw_okq (⟨"NoiseShaper$Loop", "outOf", "(I)I"⟩, 14) := ⟨⟨by decide +kernel, by decide +kernel⟩, List.mem_of_getElem? (i := 54) (by decide +kernel), List.mem_of_getElem? (i := 573) (by decide +kernel), List.mem_of_getElem? (i := 574) (by decide +kernel)⟩
theorem lw_p7 : lw_okq (⟨"NoiseShaper$Loop", "drawDither", "()I"⟩, 14) := ⟨⟨by decide +kernel, by decide +kernel⟩, List.mem_of_getElem? (i := 54) (by decide +kernel), List.mem_of_getElem? (i := 577) (by decide +kernel), List.mem_of_getElem? (i := 578) (by decide +kernel)⟩
theorem lw_p8 : lw_okq (⟨"NoiseShaper$Loop", "outOfSums", "(II)I"⟩, 14) := ⟨⟨by decide +kernel, by decide +kernel⟩, List.mem_of_getElem? (i := 54) (by decide +kernel), List.mem_of_getElem? (i := 585) (by decide +kernel), List.mem_of_getElem? (i := 586) (by decide +kernel)⟩
theorem lw_p9 : lw_okq (⟨"NoiseShaper$Loop", "hold", "(I)I"⟩, 14) := ⟨⟨by decide +kernel, by decide +kernel⟩, List.mem_of_getElem? (i := 54) (by decide +kernel), List.mem_of_getElem? (i := 589) (by decide +kernel), List.mem_of_getElem? (i := 590) (by decide +kernel)⟩
theorem lw_p10 : lw_okq (⟨"NoiseShaper$Loop", "outOfCascade", "(II)I"⟩, 14) := ⟨⟨by decide +kernel, by decide +kernel⟩, List.mem_of_getElem? (i := 54) (by decide +kernel), List.mem_of_getElem? (i := 609) (by decide +kernel), List.mem_of_getElem? (i := 610) (by decide +kernel)⟩
theorem lw_p11 : lw_okq (⟨"NoiseShaper$Loop", "differenceOf", "(II)I"⟩, 14) := ⟨⟨by decide +kernel, by decide +kernel⟩, List.mem_of_getElem? (i := 54) (by decide +kernel), List.mem_of_getElem? (i := 621) (by decide +kernel), List.mem_of_getElem? (i := 622) (by decide +kernel)⟩
theorem lw_p12 : lw_okq (⟨"NoiseShaper$Loop", "outOfErrors", "(II)I"⟩, 14) := ⟨⟨by decide +kernel, by decide +kernel⟩, List.mem_of_getElem? (i := 54) (by decide +kernel), List.mem_of_getElem? (i := 625) (by decide +kernel), List.mem_of_getElem? (i := 626) (by decide +kernel)⟩
theorem lw_p13 : lw_okq (⟨"NoiseShaper$Loop", "shapedErrors", "()I"⟩, 14) := ⟨⟨by decide +kernel, by decide +kernel⟩, List.mem_of_getElem? (i := 54) (by decide +kernel), List.mem_of_getElem? (i := 629) (by decide +kernel), List.mem_of_getElem? (i := 630) (by decide +kernel)⟩
theorem lw_p14 : lw_okq (⟨"NoiseShaper$Elements", "chooseRotated", "(I)I"⟩, 11) := ⟨⟨by decide +kernel, by decide +kernel⟩, List.mem_of_getElem? (i := 161) (by decide +kernel), List.mem_of_getElem? (i := 657) (by decide +kernel), List.mem_of_getElem? (i := 658) (by decide +kernel)⟩
theorem lw_p15 : lw_okq (⟨"NoiseShaper$Elements", "chooseTwice", "(I)I"⟩, 11) := ⟨⟨by decide +kernel, by decide +kernel⟩, List.mem_of_getElem? (i := 161) (by decide +kernel), List.mem_of_getElem? (i := 661) (by decide +kernel), List.mem_of_getElem? (i := 662) (by decide +kernel)⟩
def lw_privs_1 : List (MethodName × Nat) := [(⟨"NoiseShaper", "refuse", "(I)I"⟩, 14), (⟨"NoiseShaper", "beginAnewFrom", "(I)V"⟩, 14), (⟨"NoiseShaper", "answer", "(I)I"⟩, 14), (⟨"NoiseShaper$Elements", "weightsOf", "(I)I"⟩, 11), (⟨"NoiseShaper", "oneClock", "()V"⟩, 14), (⟨"NoiseShaper$Source", "numberUnbound", "(I)I"⟩, 5), (⟨"NoiseShaper$Loop", "outOf", "(I)I"⟩, 14), (⟨"NoiseShaper$Loop", "drawDither", "()I"⟩, 14), (⟨"NoiseShaper$Loop", "outOfSums", "(II)I"⟩, 14), (⟨"NoiseShaper$Loop", "hold", "(I)I"⟩, 14), (⟨"NoiseShaper$Loop", "outOfCascade", "(II)I"⟩, 14), (⟨"NoiseShaper$Loop", "differenceOf", "(II)I"⟩, 14), (⟨"NoiseShaper$Loop", "outOfErrors", "(II)I"⟩, 14), (⟨"NoiseShaper$Loop", "shapedErrors", "()I"⟩, 14), (⟨"NoiseShaper$Elements", "chooseRotated", "(I)I"⟩, 11), (⟨"NoiseShaper$Elements", "chooseTwice", "(I)I"⟩, 11)]
theorem lw_r1 : ∀ q ∈ lw_privs_1, lw_okq q := List.forall_mem_cons.mpr ⟨lw_p0, List.forall_mem_cons.mpr ⟨lw_p1, List.forall_mem_cons.mpr ⟨lw_p2, List.forall_mem_cons.mpr ⟨lw_p3, List.forall_mem_cons.mpr ⟨lw_p4, List.forall_mem_cons.mpr ⟨lw_p5, List.forall_mem_cons.mpr ⟨lw_p6, List.forall_mem_cons.mpr ⟨lw_p7, List.forall_mem_cons.mpr ⟨lw_p8, List.forall_mem_cons.mpr ⟨lw_p9, List.forall_mem_cons.mpr ⟨lw_p10, List.forall_mem_cons.mpr ⟨lw_p11, List.forall_mem_cons.mpr ⟨lw_p12, List.forall_mem_cons.mpr ⟨lw_p13, List.forall_mem_cons.mpr ⟨lw_p14, List.forall_mem_cons.mpr ⟨lw_p15, fun _ h => absurd h List.not_mem_nil⟩⟩⟩⟩⟩⟩⟩⟩⟩⟩⟩⟩⟩⟩⟩⟩
theorem lw_p16 : lw_okq (⟨"NoiseShaper$Elements", "mostDue", "(I)I"⟩, 11) := ⟨⟨by decide +kernel, by decide +kernel⟩, List.mem_of_getElem? (i := 161) (by decide +kernel), List.mem_of_getElem? (i := 665) (by decide +kernel), List.mem_of_getElem? (i := 666) (by decide +kernel)⟩
theorem lw_p17 : lw_okq (⟨"NoiseShaper$Elements", "runUpDebts", "(I)V"⟩, 11) := ⟨⟨by decide +kernel, by decide +kernel⟩, List.mem_of_getElem? (i := 161) (by decide +kernel), List.mem_of_getElem? (i := 669) (by decide +kernel), List.mem_of_getElem? (i := 670) (by decide +kernel)⟩
theorem lw_p18 : lw_okq (⟨"NoiseShaper", "handToFolds", "(I)V"⟩, 14) := ⟨⟨by decide +kernel, by decide +kernel⟩, List.mem_of_getElem? (i := 18) (by decide +kernel), List.mem_of_getElem? (i := 691) (by decide +kernel), List.mem_of_getElem? (i := 692) (by decide +kernel)⟩
theorem lw_p19 : lw_okq (⟨"NoiseShaper", "answerLong", "(J)J"⟩, 14) := ⟨⟨by decide +kernel, by decide +kernel⟩, List.mem_of_getElem? (i := 18) (by decide +kernel), List.mem_of_getElem? (i := 728) (by decide +kernel), List.mem_of_getElem? (i := 729) (by decide +kernel)⟩
theorem lw_p20 : lw_okq (⟨"NoiseShaper", "keptByLoop", "()I"⟩, 14) := ⟨⟨by decide +kernel, by decide +kernel⟩, List.mem_of_getElem? (i := 18) (by decide +kernel), List.mem_of_getElem? (i := 737) (by decide +kernel), List.mem_of_getElem? (i := 738) (by decide +kernel)⟩
theorem lw_p21 : lw_okq (⟨"NoiseShaper", "greatestGapOf", "(I)J"⟩, 14) := ⟨⟨by decide +kernel, by decide +kernel⟩, List.mem_of_getElem? (i := 18) (by decide +kernel), List.mem_of_getElem? (i := 742) (by decide +kernel), List.mem_of_getElem? (i := 743) (by decide +kernel)⟩
theorem lw_p22 : lw_okq (⟨"NoiseShaper$Taps", "manyOf", "(II)I"⟩, 2) := ⟨⟨by decide +kernel, by decide +kernel⟩, List.mem_of_getElem? (i := 256) (by decide +kernel), List.mem_of_getElem? (i := 808) (by decide +kernel), List.mem_of_getElem? (i := 809) (by decide +kernel)⟩
theorem lw_p23 : lw_okq (⟨"NoiseShaper$Comb", "foldByOnes", "()V"⟩, 10) := ⟨⟨by decide +kernel, by decide +kernel⟩, List.mem_of_getElem? (i := 212) (by decide +kernel), List.mem_of_getElem? (i := 834) (by decide +kernel), List.mem_of_getElem? (i := 835) (by decide +kernel)⟩
theorem lw_p24 : lw_okq (⟨"NoiseShaper$Tone", "findOrPut", "(I)I"⟩, 6) := ⟨⟨by decide +kernel, by decide +kernel⟩, List.mem_of_getElem? (i := 288) (by decide +kernel), List.mem_of_getElem? (i := 895) (by decide +kernel), List.mem_of_getElem? (i := 896) (by decide +kernel)⟩
theorem lw_p25 : lw_okq (⟨"NoiseShaper$Tone", "cellOf", "(I)I"⟩, 6) := ⟨⟨by decide +kernel, by decide +kernel⟩, List.mem_of_getElem? (i := 288) (by decide +kernel), List.mem_of_getElem? (i := 899) (by decide +kernel), List.mem_of_getElem? (i := 900) (by decide +kernel)⟩
theorem lw_p26 : lw_okq (⟨"NoiseShaper$Tone", "isSame", "(II)Z"⟩, 6) := ⟨⟨by decide +kernel, by decide +kernel⟩, List.mem_of_getElem? (i := 288) (by decide +kernel), List.mem_of_getElem? (i := 904) (by decide +kernel), List.mem_of_getElem? (i := 905) (by decide +kernel)⟩
theorem lw_p27 : lw_okq (⟨"NoiseShaper$Tone", "patternAt", "(I)I"⟩, 6) := ⟨⟨by decide +kernel, by decide +kernel⟩, List.mem_of_getElem? (i := 288) (by decide +kernel), List.mem_of_getElem? (i := 913) (by decide +kernel), List.mem_of_getElem? (i := 914) (by decide +kernel)⟩
theorem lw_p28 : lw_okq (⟨"NoiseShaper", "hitClocksAhead", "(II)I"⟩, 14) := ⟨⟨by decide +kernel, by decide +kernel⟩, List.mem_of_getElem? (i := 18) (by decide +kernel), List.mem_of_getElem? (i := 973) (by decide +kernel), List.mem_of_getElem? (i := 974) (by decide +kernel)⟩
theorem lw_p29 : lw_okq (⟨"NoiseShaperModel", "refuse", "(I)I"⟩, 35) := ⟨⟨by decide +kernel, by decide +kernel⟩, List.mem_of_getElem? (i := 982) (by decide +kernel), List.mem_of_getElem? (i := 1109) (by decide +kernel), List.mem_of_getElem? (i := 1110) (by decide +kernel)⟩
theorem lw_p30 : lw_okq (⟨"NoiseShaperModel", "begins", "(I)V"⟩, 35) := ⟨⟨by decide +kernel, by decide +kernel⟩, List.mem_of_getElem? (i := 982) (by decide +kernel), List.mem_of_getElem? (i := 1113) (by decide +kernel), List.mem_of_getElem? (i := 1114) (by decide +kernel)⟩
theorem lw_p31 : lw_okq (⟨"NoiseShaperModel", "wipes", "(II)V"⟩, 35) := ⟨⟨by decide +kernel, by decide +kernel⟩, List.mem_of_getElem? (i := 982) (by decide +kernel), List.mem_of_getElem? (i := 1117) (by decide +kernel), List.mem_of_getElem? (i := 1118) (by decide +kernel)⟩
def lw_privs_2 : List (MethodName × Nat) := [(⟨"NoiseShaper$Elements", "mostDue", "(I)I"⟩, 11), (⟨"NoiseShaper$Elements", "runUpDebts", "(I)V"⟩, 11), (⟨"NoiseShaper", "handToFolds", "(I)V"⟩, 14), (⟨"NoiseShaper", "answerLong", "(J)J"⟩, 14), (⟨"NoiseShaper", "keptByLoop", "()I"⟩, 14), (⟨"NoiseShaper", "greatestGapOf", "(I)J"⟩, 14), (⟨"NoiseShaper$Taps", "manyOf", "(II)I"⟩, 2), (⟨"NoiseShaper$Comb", "foldByOnes", "()V"⟩, 10), (⟨"NoiseShaper$Tone", "findOrPut", "(I)I"⟩, 6), (⟨"NoiseShaper$Tone", "cellOf", "(I)I"⟩, 6), (⟨"NoiseShaper$Tone", "isSame", "(II)Z"⟩, 6), (⟨"NoiseShaper$Tone", "patternAt", "(I)I"⟩, 6), (⟨"NoiseShaper", "hitClocksAhead", "(II)I"⟩, 14), (⟨"NoiseShaperModel", "refuse", "(I)I"⟩, 35), (⟨"NoiseShaperModel", "begins", "(I)V"⟩, 35), (⟨"NoiseShaperModel", "wipes", "(II)V"⟩, 35)]
theorem lw_r2 : ∀ q ∈ lw_privs_2, lw_okq q := List.forall_mem_cons.mpr ⟨lw_p16, List.forall_mem_cons.mpr ⟨lw_p17, List.forall_mem_cons.mpr ⟨lw_p18, List.forall_mem_cons.mpr ⟨lw_p19, List.forall_mem_cons.mpr ⟨lw_p20, List.forall_mem_cons.mpr ⟨lw_p21, List.forall_mem_cons.mpr ⟨lw_p22, List.forall_mem_cons.mpr ⟨lw_p23, List.forall_mem_cons.mpr ⟨lw_p24, List.forall_mem_cons.mpr ⟨lw_p25, List.forall_mem_cons.mpr ⟨lw_p26, List.forall_mem_cons.mpr ⟨lw_p27, List.forall_mem_cons.mpr ⟨lw_p28, List.forall_mem_cons.mpr ⟨lw_p29, List.forall_mem_cons.mpr ⟨lw_p30, List.forall_mem_cons.mpr ⟨lw_p31, fun _ h => absurd h List.not_mem_nil⟩⟩⟩⟩⟩⟩⟩⟩⟩⟩⟩⟩⟩⟩⟩⟩
theorem lw_p32 : lw_okq (⟨"NoiseShaperModel", "beginsLoop", "()V"⟩, 35) := ⟨⟨by decide +kernel, by decide +kernel⟩, List.mem_of_getElem? (i := 982) (by decide +kernel), List.mem_of_getElem? (i := 1121) (by decide +kernel), List.mem_of_getElem? (i := 1122) (by decide +kernel)⟩
theorem lw_p33 : lw_okq (⟨"NoiseShaperModel", "beginsElements", "()V"⟩, 35) := ⟨⟨by decide +kernel, by decide +kernel⟩, List.mem_of_getElem? (i := 982) (by decide +kernel), List.mem_of_getElem? (i := 1125) (by decide +kernel), List.mem_of_getElem? (i := 1126) (by decide +kernel)⟩
theorem lw_p34 : lw_okq (⟨"NoiseShaperModel", "get", "(I)I"⟩, 35) := ⟨⟨by decide +kernel, by decide +kernel⟩, List.mem_of_getElem? (i := 982) (by decide +kernel), List.mem_of_getElem? (i := 1130) (by decide +kernel), List.mem_of_getElem? (i := 1131) (by decide +kernel)⟩
theorem lw_p35 : lw_okq (⟨"NoiseShaperModel", "gives", "(I)I"⟩, 35) := ⟨⟨by decide +kernel, by decide +kernel⟩, List.mem_of_getElem? (i := 982) (by decide +kernel), List.mem_of_getElem? (i := 1134) (by decide +kernel), List.mem_of_getElem? (i := 1135) (by decide +kernel)⟩
theorem lw_p36 : lw_okq (⟨"NoiseShaperModel", "elements", "()I"⟩, 35) := ⟨⟨by decide +kernel, by decide +kernel⟩, List.mem_of_getElem? (i := 982) (by decide +kernel), List.mem_of_getElem? (i := 1146) (by decide +kernel), List.mem_of_getElem? (i := 1147) (by decide +kernel)⟩
theorem lw_p37 : lw_okq (⟨"NoiseShaperModel", "weights", "()I"⟩, 35) := ⟨⟨by decide +kernel, by decide +kernel⟩, List.mem_of_getElem? (i := 982) (by decide +kernel), List.mem_of_getElem? (i := 1166) (by decide +kernel), List.mem_of_getElem? (i := 1167) (by decide +kernel)⟩
theorem lw_p38 : lw_okq (⟨"NoiseShaperModel", "weight", "(I)I"⟩, 35) := ⟨⟨by decide +kernel, by decide +kernel⟩, List.mem_of_getElem? (i := 982) (by decide +kernel), List.mem_of_getElem? (i := 1170) (by decide +kernel), List.mem_of_getElem? (i := 1171) (by decide +kernel)⟩
theorem lw_p39 : lw_okq (⟨"NoiseShaperModel", "needFor", "(I)I"⟩, 35) := ⟨⟨by decide +kernel, by decide +kernel⟩, List.mem_of_getElem? (i := 982) (by decide +kernel), List.mem_of_getElem? (i := 1174) (by decide +kernel), List.mem_of_getElem? (i := 1175) (by decide +kernel)⟩
theorem lw_p40 : lw_okq (⟨"NoiseShaperModel", "goes", "()V"⟩, 35) := ⟨⟨by decide +kernel, by decide +kernel⟩, List.mem_of_getElem? (i := 982) (by decide +kernel), List.mem_of_getElem? (i := 1200) (by decide +kernel), List.mem_of_getElem? (i := 1201) (by decide +kernel)⟩
theorem lw_p41 : lw_okq (⟨"NoiseShaperModel", "sourceAt", "(I)I"⟩, 35) := ⟨⟨by decide +kernel, by decide +kernel⟩, List.mem_of_getElem? (i := 982) (by decide +kernel), List.mem_of_getElem? (i := 1204) (by decide +kernel), List.mem_of_getElem? (i := 1205) (by decide +kernel)⟩
theorem lw_p42 : lw_okq (⟨"NoiseShaperModel", "tells", "(IJ)V"⟩, 35) := ⟨⟨by decide +kernel, by decide +kernel⟩, List.mem_of_getElem? (i := 982) (by decide +kernel), List.mem_of_getElem? (i := 1209) (by decide +kernel), List.mem_of_getElem? (i := 1210) (by decide +kernel)⟩
theorem lw_p43 : lw_okq (⟨"NoiseShaperModel", "drawn", "()I"⟩, 35) := ⟨⟨by decide +kernel, by decide +kernel⟩, List.mem_of_getElem? (i := 982) (by decide +kernel), List.mem_of_getElem? (i := 1213) (by decide +kernel), List.mem_of_getElem? (i := 1214) (by decide +kernel)⟩
theorem lw_p44 : lw_okq (⟨"NoiseShaperModel", "loops", "(II)I"⟩, 35) := ⟨⟨by decide +kernel, by decide +kernel⟩, List.mem_of_getElem? (i := 982) (by decide +kernel), List.mem_of_getElem? (i := 1221) (by decide +kernel), List.mem_of_getElem? (i := 1222) (by decide +kernel)⟩
theorem lw_p45 : lw_okq (⟨"NoiseShaperModel", "byErrors", "(II)I"⟩, 35) := ⟨⟨by decide +kernel, by decide +kernel⟩, List.mem_of_getElem? (i := 982) (by decide +kernel), List.mem_of_getElem? (i := 1225) (by decide +kernel), List.mem_of_getElem? (i := 1226) (by decide +kernel)⟩
theorem lw_p46 : lw_okq (⟨"NoiseShaperModel", "nearest", "(I)I"⟩, 35) := ⟨⟨by decide +kernel, by decide +kernel⟩, List.mem_of_getElem? (i := 982) (by decide +kernel), List.mem_of_getElem? (i := 1229) (by decide +kernel), List.mem_of_getElem? (i := 1230) (by decide +kernel)⟩
theorem lw_p47 : lw_okq (⟨"NoiseShaperModel", "valueOf", "(I)I"⟩, 35) := ⟨⟨by decide +kernel, by decide +kernel⟩, List.mem_of_getElem? (i := 982) (by decide +kernel), List.mem_of_getElem? (i := 1233) (by decide +kernel), List.mem_of_getElem? (i := 1234) (by decide +kernel)⟩
def lw_privs_3 : List (MethodName × Nat) := [(⟨"NoiseShaperModel", "beginsLoop", "()V"⟩, 35), (⟨"NoiseShaperModel", "beginsElements", "()V"⟩, 35), (⟨"NoiseShaperModel", "get", "(I)I"⟩, 35), (⟨"NoiseShaperModel", "gives", "(I)I"⟩, 35), (⟨"NoiseShaperModel", "elements", "()I"⟩, 35), (⟨"NoiseShaperModel", "weights", "()I"⟩, 35), (⟨"NoiseShaperModel", "weight", "(I)I"⟩, 35), (⟨"NoiseShaperModel", "needFor", "(I)I"⟩, 35), (⟨"NoiseShaperModel", "goes", "()V"⟩, 35), (⟨"NoiseShaperModel", "sourceAt", "(I)I"⟩, 35), (⟨"NoiseShaperModel", "tells", "(IJ)V"⟩, 35), (⟨"NoiseShaperModel", "drawn", "()I"⟩, 35), (⟨"NoiseShaperModel", "loops", "(II)I"⟩, 35), (⟨"NoiseShaperModel", "byErrors", "(II)I"⟩, 35), (⟨"NoiseShaperModel", "nearest", "(I)I"⟩, 35), (⟨"NoiseShaperModel", "valueOf", "(I)I"⟩, 35)]
theorem lw_r3 : ∀ q ∈ lw_privs_3, lw_okq q := List.forall_mem_cons.mpr ⟨lw_p32, List.forall_mem_cons.mpr ⟨lw_p33, List.forall_mem_cons.mpr ⟨lw_p34, List.forall_mem_cons.mpr ⟨lw_p35, List.forall_mem_cons.mpr ⟨lw_p36, List.forall_mem_cons.mpr ⟨lw_p37, List.forall_mem_cons.mpr ⟨lw_p38, List.forall_mem_cons.mpr ⟨lw_p39, List.forall_mem_cons.mpr ⟨lw_p40, List.forall_mem_cons.mpr ⟨lw_p41, List.forall_mem_cons.mpr ⟨lw_p42, List.forall_mem_cons.mpr ⟨lw_p43, List.forall_mem_cons.mpr ⟨lw_p44, List.forall_mem_cons.mpr ⟨lw_p45, List.forall_mem_cons.mpr ⟨lw_p46, List.forall_mem_cons.mpr ⟨lw_p47, fun _ h => absurd h List.not_mem_nil⟩⟩⟩⟩⟩⟩⟩⟩⟩⟩⟩⟩⟩⟩⟩⟩
theorem lw_p48 : lw_okq (⟨"NoiseShaperModel", "held", "(I)I"⟩, 35) := ⟨⟨by decide +kernel, by decide +kernel⟩, List.mem_of_getElem? (i := 982) (by decide +kernel), List.mem_of_getElem? (i := 1238) (by decide +kernel), List.mem_of_getElem? (i := 1239) (by decide +kernel)⟩
theorem lw_p49 : lw_okq (⟨"NoiseShaperModel", "bySums", "(II)I"⟩, 35) := ⟨⟨by decide +kernel, by decide +kernel⟩, List.mem_of_getElem? (i := 982) (by decide +kernel), List.mem_of_getElem? (i := 1242) (by decide +kernel), List.mem_of_getElem? (i := 1243) (by decide +kernel)⟩
theorem lw_p50 : lw_okq (⟨"NoiseShaperModel", "byCascade", "(II)I"⟩, 35) := ⟨⟨by decide +kernel, by decide +kernel⟩, List.mem_of_getElem? (i := 982) (by decide +kernel), List.mem_of_getElem? (i := 1246) (by decide +kernel), List.mem_of_getElem? (i := 1247) (by decide +kernel)⟩
theorem lw_p51 : lw_okq (⟨"NoiseShaperModel", "besides", "()I"⟩, 35) := ⟨⟨by decide +kernel, by decide +kernel⟩, List.mem_of_getElem? (i := 982) (by decide +kernel), List.mem_of_getElem? (i := 1250) (by decide +kernel), List.mem_of_getElem? (i := 1251) (by decide +kernel)⟩
theorem lw_p52 : lw_okq (⟨"NoiseShaperModel", "goesElements", "(I)I"⟩, 35) := ⟨⟨by decide +kernel, by decide +kernel⟩, List.mem_of_getElem? (i := 982) (by decide +kernel), List.mem_of_getElem? (i := 1256) (by decide +kernel), List.mem_of_getElem? (i := 1257) (by decide +kernel)⟩
theorem lw_p53 : lw_okq (⟨"NoiseShaperModel", "wouldBeOn", "(I)I"⟩, 35) := ⟨⟨by decide +kernel, by decide +kernel⟩, List.mem_of_getElem? (i := 982) (by decide +kernel), List.mem_of_getElem? (i := 1260) (by decide +kernel), List.mem_of_getElem? (i := 1261) (by decide +kernel)⟩
theorem lw_p54 : lw_okq (⟨"NoiseShaperModel", "combs", "(J)Z"⟩, 35) := ⟨⟨by decide +kernel, by decide +kernel⟩, List.mem_of_getElem? (i := 982) (by decide +kernel), List.mem_of_getElem? (i := 1273) (by decide +kernel), List.mem_of_getElem? (i := 1274) (by decide +kernel)⟩
theorem lw_p55 : lw_okq (⟨"NoiseShaperModel", "worded", "(J)J"⟩, 35) := ⟨⟨by decide +kernel, by decide +kernel⟩, List.mem_of_getElem? (i := 982) (by decide +kernel), List.mem_of_getElem? (i := 1277) (by decide +kernel), List.mem_of_getElem? (i := 1278) (by decide +kernel)⟩
theorem lw_p56 : lw_okq (⟨"NoiseShaperModel", "latestOf", "(II)J"⟩, 35) := ⟨⟨by decide +kernel, by decide +kernel⟩, List.mem_of_getElem? (i := 982) (by decide +kernel), List.mem_of_getElem? (i := 1281) (by decide +kernel), List.mem_of_getElem? (i := 1282) (by decide +kernel)⟩
theorem lw_p57 : lw_okq (⟨"NoiseShaperModel", "folds", "(IJ)Z"⟩, 35) := ⟨⟨by decide +kernel, by decide +kernel⟩, List.mem_of_getElem? (i := 982) (by decide +kernel), List.mem_of_getElem? (i := 1285) (by decide +kernel), List.mem_of_getElem? (i := 1286) (by decide +kernel)⟩
theorem lw_p58 : lw_okq (⟨"NoiseShaperModel", "tapMany", "(I)I"⟩, 35) := ⟨⟨by decide +kernel, by decide +kernel⟩, List.mem_of_getElem? (i := 982) (by decide +kernel), List.mem_of_getElem? (i := 1289) (by decide +kernel), List.mem_of_getElem? (i := 1290) (by decide +kernel)⟩
theorem lw_p59 : lw_okq (⟨"NoiseShaperModel", "tapOf", "(II)I"⟩, 35) := ⟨⟨by decide +kernel, by decide +kernel⟩, List.mem_of_getElem? (i := 982) (by decide +kernel), List.mem_of_getElem? (i := 1293) (by decide +kernel), List.mem_of_getElem? (i := 1294) (by decide +kernel)⟩
theorem lw_p60 : lw_okq (⟨"NoiseShaperModel", "shiftOf", "(I)I"⟩, 35) := ⟨⟨by decide +kernel, by decide +kernel⟩, List.mem_of_getElem? (i := 982) (by decide +kernel), List.mem_of_getElem? (i := 1297) (by decide +kernel), List.mem_of_getElem? (i := 1298) (by decide +kernel)⟩
theorem lw_p61 : lw_okq (⟨"NoiseShaperModel", "many", "(I)I"⟩, 35) := ⟨⟨by decide +kernel, by decide +kernel⟩, List.mem_of_getElem? (i := 982) (by decide +kernel), List.mem_of_getElem? (i := 1309) (by decide +kernel), List.mem_of_getElem? (i := 1310) (by decide +kernel)⟩
theorem lw_p62 : lw_okq (⟨"NoiseShaperModel", "givesLong", "(J)J"⟩, 35) := ⟨⟨by decide +kernel, by decide +kernel⟩, List.mem_of_getElem? (i := 982) (by decide +kernel), List.mem_of_getElem? (i := 1321) (by decide +kernel), List.mem_of_getElem? (i := 1322) (by decide +kernel)⟩
theorem lw_p63 : lw_okq (⟨"NoiseShaperModel", "spreadNow", "()I"⟩, 35) := ⟨⟨by decide +kernel, by decide +kernel⟩, List.mem_of_getElem? (i := 982) (by decide +kernel), List.mem_of_getElem? (i := 1345) (by decide +kernel), List.mem_of_getElem? (i := 1346) (by decide +kernel)⟩
def lw_privs_4 : List (MethodName × Nat) := [(⟨"NoiseShaperModel", "held", "(I)I"⟩, 35), (⟨"NoiseShaperModel", "bySums", "(II)I"⟩, 35), (⟨"NoiseShaperModel", "byCascade", "(II)I"⟩, 35), (⟨"NoiseShaperModel", "besides", "()I"⟩, 35), (⟨"NoiseShaperModel", "goesElements", "(I)I"⟩, 35), (⟨"NoiseShaperModel", "wouldBeOn", "(I)I"⟩, 35), (⟨"NoiseShaperModel", "combs", "(J)Z"⟩, 35), (⟨"NoiseShaperModel", "worded", "(J)J"⟩, 35), (⟨"NoiseShaperModel", "latestOf", "(II)J"⟩, 35), (⟨"NoiseShaperModel", "folds", "(IJ)Z"⟩, 35), (⟨"NoiseShaperModel", "tapMany", "(I)I"⟩, 35), (⟨"NoiseShaperModel", "tapOf", "(II)I"⟩, 35), (⟨"NoiseShaperModel", "shiftOf", "(I)I"⟩, 35), (⟨"NoiseShaperModel", "many", "(I)I"⟩, 35), (⟨"NoiseShaperModel", "givesLong", "(J)J"⟩, 35), (⟨"NoiseShaperModel", "spreadNow", "()I"⟩, 35)]
theorem lw_r4 : ∀ q ∈ lw_privs_4, lw_okq q := List.forall_mem_cons.mpr ⟨lw_p48, List.forall_mem_cons.mpr ⟨lw_p49, List.forall_mem_cons.mpr ⟨lw_p50, List.forall_mem_cons.mpr ⟨lw_p51, List.forall_mem_cons.mpr ⟨lw_p52, List.forall_mem_cons.mpr ⟨lw_p53, List.forall_mem_cons.mpr ⟨lw_p54, List.forall_mem_cons.mpr ⟨lw_p55, List.forall_mem_cons.mpr ⟨lw_p56, List.forall_mem_cons.mpr ⟨lw_p57, List.forall_mem_cons.mpr ⟨lw_p58, List.forall_mem_cons.mpr ⟨lw_p59, List.forall_mem_cons.mpr ⟨lw_p60, List.forall_mem_cons.mpr ⟨lw_p61, List.forall_mem_cons.mpr ⟨lw_p62, List.forall_mem_cons.mpr ⟨lw_p63, fun _ h => absurd h List.not_mem_nil⟩⟩⟩⟩⟩⟩⟩⟩⟩⟩⟩⟩⟩⟩⟩⟩
theorem lw_p64 : lw_okq (⟨"NoiseShaperModel", "unlikeNone", "(I)I"⟩, 35) := ⟨⟨by decide +kernel, by decide +kernel⟩, List.mem_of_getElem? (i := 982) (by decide +kernel), List.mem_of_getElem? (i := 1361) (by decide +kernel), List.mem_of_getElem? (i := 1362) (by decide +kernel)⟩
theorem lw_p65 : lw_okq (⟨"NoiseShaperModel", "beatOf", "(II)J"⟩, 35) := ⟨⟨by decide +kernel, by decide +kernel⟩, List.mem_of_getElem? (i := 982) (by decide +kernel), List.mem_of_getElem? (i := 1382) (by decide +kernel), List.mem_of_getElem? (i := 1383) (by decide +kernel)⟩
theorem lw_p66 : lw_okq (⟨"NoiseShaperModel", "asks", "(I)V"⟩, 35) := ⟨⟨by decide +kernel, by decide +kernel⟩, List.mem_of_getElem? (i := 982) (by decide +kernel), List.mem_of_getElem? (i := 1394) (by decide +kernel), List.mem_of_getElem? (i := 1395) (by decide +kernel)⟩
theorem lw_p67 : lw_okq (⟨"NoiseShaperModel", "tones", "(IZ)V"⟩, 35) := ⟨⟨by decide +kernel, by decide +kernel⟩, List.mem_of_getElem? (i := 982) (by decide +kernel), List.mem_of_getElem? (i := 1398) (by decide +kernel), List.mem_of_getElem? (i := 1399) (by decide +kernel)⟩
theorem lw_p68 : lw_okq (⟨"NoiseShaperModel", "lays", "(I)V"⟩, 35) := ⟨⟨by decide +kernel, by decide +kernel⟩, List.mem_of_getElem? (i := 982) (by decide +kernel), List.mem_of_getElem? (i := 1405) (by decide +kernel), List.mem_of_getElem? (i := 1406) (by decide +kernel)⟩
theorem lw_p69 : lw_okq (⟨"NoiseShaperModel", "isLike", "(II)Z"⟩, 35) := ⟨⟨by decide +kernel, by decide +kernel⟩, List.mem_of_getElem? (i := 982) (by decide +kernel), List.mem_of_getElem? (i := 1409) (by decide +kernel), List.mem_of_getElem? (i := 1410) (by decide +kernel)⟩
theorem lw_p70 : lw_okq (⟨"NoiseShaperModel", "ofPattern", "(I)I"⟩, 35) := ⟨⟨by decide +kernel, by decide +kernel⟩, List.mem_of_getElem? (i := 982) (by decide +kernel), List.mem_of_getElem? (i := 1413) (by decide +kernel), List.mem_of_getElem? (i := 1414) (by decide +kernel)⟩
theorem lw_p71 : lw_okq (⟨"NoiseShaperModel", "inPattern", "(I)I"⟩, 35) := ⟨⟨by decide +kernel, by decide +kernel⟩, List.mem_of_getElem? (i := 982) (by decide +kernel), List.mem_of_getElem? (i := 1417) (by decide +kernel), List.mem_of_getElem? (i := 1418) (by decide +kernel)⟩
theorem lw_p72 : lw_okq (⟨"NoiseShaperModel", "strained", "(II)I"⟩, 35) := ⟨⟨by decide +kernel, by decide +kernel⟩, List.mem_of_getElem? (i := 982) (by decide +kernel), List.mem_of_getElem? (i := 1445) (by decide +kernel), List.mem_of_getElem? (i := 1446) (by decide +kernel)⟩
def lw_privs_5 : List (MethodName × Nat) := [(⟨"NoiseShaperModel", "unlikeNone", "(I)I"⟩, 35), (⟨"NoiseShaperModel", "beatOf", "(II)J"⟩, 35), (⟨"NoiseShaperModel", "asks", "(I)V"⟩, 35), (⟨"NoiseShaperModel", "tones", "(IZ)V"⟩, 35), (⟨"NoiseShaperModel", "lays", "(I)V"⟩, 35), (⟨"NoiseShaperModel", "isLike", "(II)Z"⟩, 35), (⟨"NoiseShaperModel", "ofPattern", "(I)I"⟩, 35), (⟨"NoiseShaperModel", "inPattern", "(I)I"⟩, 35), (⟨"NoiseShaperModel", "strained", "(II)I"⟩, 35)]
theorem lw_r5 : ∀ q ∈ lw_privs_5, lw_okq q := List.forall_mem_cons.mpr ⟨lw_p64, List.forall_mem_cons.mpr ⟨lw_p65, List.forall_mem_cons.mpr ⟨lw_p66, List.forall_mem_cons.mpr ⟨lw_p67, List.forall_mem_cons.mpr ⟨lw_p68, List.forall_mem_cons.mpr ⟨lw_p69, List.forall_mem_cons.mpr ⟨lw_p70, List.forall_mem_cons.mpr ⟨lw_p71, List.forall_mem_cons.mpr ⟨lw_p72, fun _ h => absurd h List.not_mem_nil⟩⟩⟩⟩⟩⟩⟩⟩⟩
def lw_privs : List (MethodName × Nat) := lw_privs_1 ++ (lw_privs_2 ++ (lw_privs_3 ++ (lw_privs_4 ++ (lw_privs_5))))
def lw_tbl : List Cond := k2_sels lw_privs ++ tables_1
theorem lw_privs_ok : ∀ q ∈ lw_privs, lw_okq q := by
  show ∀ q ∈ lw_privs_1 ++ (lw_privs_2 ++ (lw_privs_3 ++ (lw_privs_4 ++ (lw_privs_5)))), lw_okq q
  exact List.forall_mem_append.mpr ⟨lw_r1, List.forall_mem_append.mpr ⟨lw_r2, List.forall_mem_append.mpr ⟨lw_r3, List.forall_mem_append.mpr ⟨lw_r4, lw_r5⟩⟩⟩⟩
def RX0 : String := "NoiseShaper$Asked"
def TX0 : u_T := fun k => match k with
  | 0 => ("NoiseShaper$Asked", "numbers", "[I", true)
  | _ => ("NoiseShaper$Asked", "many", "I", false)
def tyX0 : Nat → FieldType := fun k => match k with
  | 0 => .array .int
  | _ => .int
abbrev wsX00 : List Cond := u_ws RX0 TX0 2
theorem nmX0 : ∀ a, a < 2 → ∀ b, b < 2 → a ≠ b → (TX0 a).2.1 ≠ (TX0 b).2.1 := by decide +kernel
theorem tyX0_ok : ∀ k, k < 2 → parseFieldDescriptor (TX0 k).2.2.1 = some (tyX0 k) := by decide +kernel
abbrev cX0_init : ByteArray := prog_2_method_1_code
def yX0_init : MethodName := ⟨RX0, "<init>", "()V"⟩
abbrev cX0_forget : ByteArray := prog_2_method_2_code
def yX0_forget : MethodName := ⟨RX0, "forget", "()V"⟩
abbrev cX0_add : ByteArray := prog_2_method_3_code
def yX0_add : MethodName := ⟨RX0, "add", "(I)V"⟩
def RX1 : String := "NoiseShaper$Comb"
def TX1 : u_T := fun k => match k with
  | 0 => ("NoiseShaper$Comb", "order", "I", false)
  | 1 => ("NoiseShaper$Comb", "ratio", "I", false)
  | 2 => ("NoiseShaper$Comb", "width", "I", false)
  | 3 => ("NoiseShaper$Comb", "in", "I", false)
  | 4 => ("NoiseShaper$Comb", "sums", "[J", true)
  | 5 => ("NoiseShaper$Comb", "before", "[J", true)
  | 6 => ("NoiseShaper$Comb", "waited", "I", false)
  | 7 => ("NoiseShaper$Comb", "wrongs", "I", false)
  | 8 => ("NoiseShaper$Comb", "truth", "J", false)
  | _ => ("NoiseShaper$Comb", "answers", "[I", true)
def tyX1 : Nat → FieldType := fun k => match k with
  | 0 => .int
  | 1 => .int
  | 2 => .int
  | 3 => .int
  | 4 => .array .long
  | 5 => .array .long
  | 6 => .int
  | 7 => .int
  | 8 => .long
  | _ => .array .int
abbrev wsX10 : List Cond := u_ws RX1 TX1 10
theorem nmX1 : ∀ a, a < 10 → ∀ b, b < 10 → a ≠ b → (TX1 a).2.1 ≠ (TX1 b).2.1 := by decide +kernel
theorem tyX1_ok : ∀ k, k < 10 → parseFieldDescriptor (TX1 k).2.2.1 = some (tyX1 k) := by decide +kernel
abbrev cX1_init : ByteArray := prog_3_method_1_code
def yX1_init : MethodName := ⟨RX1, "<init>", "()V"⟩
abbrev cX1_begin : ByteArray := prog_3_method_2_code
def yX1_begin : MethodName := ⟨RX1, "begin", "()V"⟩
abbrev cX1_take : ByteArray := prog_3_method_3_code
def yX1_take : MethodName := ⟨RX1, "take", "(I)Z"⟩
abbrev cX1_number : ByteArray := prog_3_method_4_code
def yX1_number : MethodName := ⟨RX1, "number", "()I"⟩
abbrev cX1_cut : ByteArray := prog_3_method_5_code
def yX1_cut : MethodName := ⟨RX1, "cut", "(J)I"⟩
abbrev cX1_leastWidth : ByteArray := prog_3_method_6_code
def yX1_leastWidth : MethodName := ⟨RX1, "leastWidth", "(I)I"⟩
abbrev cX1_lastOfResponse : ByteArray := prog_3_method_7_code
def yX1_lastOfResponse : MethodName := ⟨RX1, "lastOfResponse", "()I"⟩
abbrev cX1_responseAt : ByteArray := prog_3_method_8_code
def yX1_responseAt : MethodName := ⟨RX1, "responseAt", "(I)I"⟩
abbrev cX1_foldByOnes : ByteArray := prog_3_method_9_code
def yX1_foldByOnes : MethodName := ⟨RX1, "foldByOnes", "()V"⟩
def RX2 : String := "NoiseShaper$Elements"
def TX2 : u_T := fun k => match k with
  | 0 => ("NoiseShaper$Elements", "many", "I", false)
  | 1 => ("NoiseShaper$Elements", "way", "I", false)
  | 2 => ("NoiseShaper$Elements", "pointer", "I", false)
  | 3 => ("NoiseShaper$Elements", "on", "I", false)
  | 4 => ("NoiseShaper$Elements", "deviations", "[I", true)
  | 5 => ("NoiseShaper$Elements", "used", "[I", true)
  | 6 => ("NoiseShaper$Elements", "debts", "[I", true)
  | 7 => ("NoiseShaper$Elements", "debtSums", "[I", true)
  | 8 => ("NoiseShaper$Elements", "drift", "J", false)
  | 9 => ("NoiseShaper$Elements", "greatestDrift", "J", false)
  | _ => ("NoiseShaper$Elements", "analogSum", "J", false)
def tyX2 : Nat → FieldType := fun k => match k with
  | 0 => .int
  | 1 => .int
  | 2 => .int
  | 3 => .int
  | 4 => .array .int
  | 5 => .array .int
  | 6 => .array .int
  | 7 => .array .int
  | 8 => .long
  | 9 => .long
  | _ => .long
abbrev wsX20 : List Cond := u_ws RX2 TX2 11
theorem nmX2 : ∀ a, a < 11 → ∀ b, b < 11 → a ≠ b → (TX2 a).2.1 ≠ (TX2 b).2.1 := by decide +kernel
theorem tyX2_ok : ∀ k, k < 11 → parseFieldDescriptor (TX2 k).2.2.1 = some (tyX2 k) := by decide +kernel
abbrev cX2_init : ByteArray := prog_4_method_1_code
def yX2_init : MethodName := ⟨RX2, "<init>", "()V"⟩
abbrev cX2_begin : ByteArray := prog_4_method_2_code
def yX2_begin : MethodName := ⟨RX2, "begin", "()V"⟩
abbrev cX2_beginLike : ByteArray := prog_4_method_3_code
def yX2_beginLike : MethodName := ⟨RX2, "beginLike", "(LNoiseShaper$Elements;I)V"⟩
abbrev cX2_weight : ByteArray := prog_4_method_4_code
def yX2_weight : MethodName := ⟨RX2, "weight", "(I)I"⟩
abbrev cX2_allWeights : ByteArray := prog_4_method_5_code
def yX2_allWeights : MethodName := ⟨RX2, "allWeights", "()I"⟩
abbrev cX2_unevenness : ByteArray := prog_4_method_6_code
def yX2_unevenness : MethodName := ⟨RX2, "unevenness", "()I"⟩
abbrev cX2_take : ByteArray := prog_4_method_7_code
def yX2_take : MethodName := ⟨RX2, "take", "(I)I"⟩
abbrev cX2_choose : ByteArray := prog_4_method_8_code
def yX2_choose : MethodName := ⟨RX2, "choose", "(I)I"⟩
abbrev cX2_chooseRotated : ByteArray := prog_4_method_9_code
def yX2_chooseRotated : MethodName := ⟨RX2, "chooseRotated", "(I)I"⟩
abbrev cX2_chooseTwice : ByteArray := prog_4_method_10_code
def yX2_chooseTwice : MethodName := ⟨RX2, "chooseTwice", "(I)I"⟩
abbrev cX2_mostDue : ByteArray := prog_4_method_11_code
def yX2_mostDue : MethodName := ⟨RX2, "mostDue", "(I)I"⟩
abbrev cX2_runUpDebts : ByteArray := prog_4_method_12_code
def yX2_runUpDebts : MethodName := ⟨RX2, "runUpDebts", "(I)V"⟩
abbrev cX2_weightsOf : ByteArray := prog_4_method_13_code
def yX2_weightsOf : MethodName := ⟨RX2, "weightsOf", "(I)I"⟩
def RX3 : String := "NoiseShaper$Fold"
def TX3 : u_T := fun k => match k with
  | 0 => ("NoiseShaper$Fold", "taps", "I", false)
  | 1 => ("NoiseShaper$Fold", "cells", "[I", true)
  | 2 => ("NoiseShaper$Fold", "at", "I", false)
  | _ => ("NoiseShaper$Fold", "isSecond", "Z", false)
def tyX3 : Nat → FieldType := fun k => match k with
  | 0 => .int
  | 1 => .array .int
  | 2 => .int
  | _ => .boolean
abbrev wsX30 : List Cond := u_ws RX3 TX3 4
theorem nmX3 : ∀ a, a < 4 → ∀ b, b < 4 → a ≠ b → (TX3 a).2.1 ≠ (TX3 b).2.1 := by decide +kernel
theorem tyX3_ok : ∀ k, k < 4 → parseFieldDescriptor (TX3 k).2.2.1 = some (tyX3 k) := by decide +kernel
abbrev cX3_init : ByteArray := prog_5_method_1_code
def yX3_init : MethodName := ⟨RX3, "<init>", "()V"⟩
abbrev cX3_begin : ByteArray := prog_5_method_2_code
def yX3_begin : MethodName := ⟨RX3, "begin", "()V"⟩
abbrev cX3_take : ByteArray := prog_5_method_3_code
def yX3_take : MethodName := ⟨RX3, "take", "(I)Z"⟩
abbrev cX3_number : ByteArray := prog_5_method_4_code
def yX3_number : MethodName := ⟨RX3, "number", "(LNoiseShaper$Taps;)I"⟩
def RX4 : String := "NoiseShaper$Latest"
def TX4 : u_T := fun k => match k with
  | 0 => ("NoiseShaper$Latest", "cells", "[I", true)
  | 1 => ("NoiseShaper$Latest", "at", "I", false)
  | 2 => ("NoiseShaper$Latest", "kept", "I", false)
  | _ => ("NoiseShaper$Latest", "count", "I", false)
def tyX4 : Nat → FieldType := fun k => match k with
  | 0 => .array .int
  | 1 => .int
  | 2 => .int
  | _ => .int
abbrev wsX40 : List Cond := u_ws RX4 TX4 4
theorem nmX4 : ∀ a, a < 4 → ∀ b, b < 4 → a ≠ b → (TX4 a).2.1 ≠ (TX4 b).2.1 := by decide +kernel
theorem tyX4_ok : ∀ k, k < 4 → parseFieldDescriptor (TX4 k).2.2.1 = some (tyX4 k) := by decide +kernel
abbrev cX4_init : ByteArray := prog_6_method_1_code
def yX4_init : MethodName := ⟨RX4, "<init>", "()V"⟩
abbrev cX4_clear : ByteArray := prog_6_method_2_code
def yX4_clear : MethodName := ⟨RX4, "clear", "()V"⟩
abbrev cX4_put : ByteArray := prog_6_method_3_code
def yX4_put : MethodName := ⟨RX4, "put", "(I)V"⟩
abbrev cX4_get : ByteArray := prog_6_method_4_code
def yX4_get : MethodName := ⟨RX4, "get", "(I)I"⟩
abbrev cX4_least : ByteArray := prog_6_method_5_code
def yX4_least : MethodName := ⟨RX4, "least", "()I"⟩
abbrev cX4_greatest : ByteArray := prog_6_method_6_code
def yX4_greatest : MethodName := ⟨RX4, "greatest", "()I"⟩
abbrev cX4_total : ByteArray := prog_6_method_7_code
def yX4_total : MethodName := ⟨RX4, "total", "()J"⟩
abbrev cX4_nearLatest : ByteArray := prog_6_method_8_code
def yX4_nearLatest : MethodName := ⟨RX4, "nearLatest", "(I)I"⟩
abbrev cX4_beatOf : ByteArray := prog_6_method_9_code
def yX4_beatOf : MethodName := ⟨RX4, "beatOf", "(I)J"⟩
abbrev cX4_greatestBeat : ByteArray := prog_6_method_10_code
def yX4_greatestBeat : MethodName := ⟨RX4, "greatestBeat", "(II)I"⟩
def RX5 : String := "NoiseShaper$Loop"
def TX5 : u_T := fun k => match k with
  | 0 => ("NoiseShaper$Loop", "plan", "LNoiseShaper$LoopPlan;", true)
  | 1 => ("NoiseShaper$Loop", "states", "[I", true)
  | 2 => ("NoiseShaper$Loop", "past", "[I", true)
  | 3 => ("NoiseShaper$Loop", "value", "I", false)
  | 4 => ("NoiseShaper$Loop", "x", "I", false)
  | 5 => ("NoiseShaper$Loop", "hits", "I", false)
  | 6 => ("NoiseShaper$Loop", "hitClocks", "I", false)
  | 7 => ("NoiseShaper$Loop", "hit", "Z", false)
  | 8 => ("NoiseShaper$Loop", "greatestHeld", "I", false)
  | 9 => ("NoiseShaper$Loop", "sourceSum", "J", false)
  | 10 => ("NoiseShaper$Loop", "valueSum", "J", false)
  | 11 => ("NoiseShaper$Loop", "outSum", "J", false)
  | 12 => ("NoiseShaper$Loop", "lost", "J", false)
  | _ => ("NoiseShaper$Loop", "greatestGap", "J", false)
def tyX5 : Nat → FieldType := fun k => match k with
  | 0 => .object "NoiseShaper$LoopPlan"
  | 1 => .array .int
  | 2 => .array .int
  | 3 => .int
  | 4 => .int
  | 5 => .int
  | 6 => .int
  | 7 => .boolean
  | 8 => .int
  | 9 => .long
  | 10 => .long
  | 11 => .long
  | 12 => .long
  | _ => .long
abbrev wsX50 : List Cond := u_ws RX5 TX5 14
theorem nmX5 : ∀ a, a < 14 → ∀ b, b < 14 → a ≠ b → (TX5 a).2.1 ≠ (TX5 b).2.1 := by decide +kernel
theorem tyX5_ok : ∀ k, k < 14 → parseFieldDescriptor (TX5 k).2.2.1 = some (tyX5 k) := by decide +kernel
abbrev cX5_init : ByteArray := prog_7_method_1_code
def yX5_init : MethodName := ⟨RX5, "<init>", "()V"⟩
abbrev cX5_begin : ByteArray := prog_7_method_2_code
def yX5_begin : MethodName := ⟨RX5, "begin", "()V"⟩
abbrev cX5_beginTone : ByteArray := prog_7_method_3_code
def yX5_beginTone : MethodName := ⟨RX5, "beginTone", "(LNoiseShaper$LoopPlan;)V"⟩
abbrev cX5_copyFrom : ByteArray := prog_7_method_4_code
def yX5_copyFrom : MethodName := ⟨RX5, "copyFrom", "(LNoiseShaper$Loop;)V"⟩
abbrev cX5_gapNow : ByteArray := prog_7_method_5_code
def yX5_gapNow : MethodName := ⟨RX5, "gapNow", "()J"⟩
abbrev cX5_advance : ByteArray := prog_7_method_6_code
def yX5_advance : MethodName := ⟨RX5, "advance", "(I)I"⟩
abbrev cX5_writeWords : ByteArray := prog_7_method_7_code
def yX5_writeWords : MethodName := ⟨RX5, "writeWords", "([II)V"⟩
abbrev cX5_outOf : ByteArray := prog_7_method_8_code
def yX5_outOf : MethodName := ⟨RX5, "outOf", "(I)I"⟩
abbrev cX5_outOfErrors : ByteArray := prog_7_method_9_code
def yX5_outOfErrors : MethodName := ⟨RX5, "outOfErrors", "(II)I"⟩
abbrev cX5_shapedErrors : ByteArray := prog_7_method_10_code
def yX5_shapedErrors : MethodName := ⟨RX5, "shapedErrors", "()I"⟩
abbrev cX5_outOfSums : ByteArray := prog_7_method_11_code
def yX5_outOfSums : MethodName := ⟨RX5, "outOfSums", "(II)I"⟩
abbrev cX5_outOfCascade : ByteArray := prog_7_method_12_code
def yX5_outOfCascade : MethodName := ⟨RX5, "outOfCascade", "(II)I"⟩
abbrev cX5_differenceOf : ByteArray := prog_7_method_13_code
def yX5_differenceOf : MethodName := ⟨RX5, "differenceOf", "(II)I"⟩
abbrev cX5_hold : ByteArray := prog_7_method_14_code
def yX5_hold : MethodName := ⟨RX5, "hold", "(I)I"⟩
abbrev cX5_drawDither : ByteArray := prog_7_method_15_code
def yX5_drawDither : MethodName := ⟨RX5, "drawDither", "()I"⟩
def RX6 : String := "NoiseShaper$LoopPlan"
def TX6 : u_T := fun k => match k with
  | 0 => ("NoiseShaper$LoopPlan", "kind", "I", false)
  | 1 => ("NoiseShaper$LoopPlan", "order", "I", false)
  | 2 => ("NoiseShaper$LoopPlan", "step", "I", false)
  | 3 => ("NoiseShaper$LoopPlan", "levels", "I", false)
  | 4 => ("NoiseShaper$LoopPlan", "limit", "I", false)
  | 5 => ("NoiseShaper$LoopPlan", "calm", "Z", false)
  | 6 => ("NoiseShaper$LoopPlan", "dither", "I", false)
  | _ => ("NoiseShaper$LoopPlan", "seed", "I", false)
def tyX6 : Nat → FieldType := fun k => match k with
  | 0 => .int
  | 1 => .int
  | 2 => .int
  | 3 => .int
  | 4 => .int
  | 5 => .boolean
  | 6 => .int
  | _ => .int
abbrev wsX60 : List Cond := u_ws RX6 TX6 8
theorem nmX6 : ∀ a, a < 8 → ∀ b, b < 8 → a ≠ b → (TX6 a).2.1 ≠ (TX6 b).2.1 := by decide +kernel
theorem tyX6_ok : ∀ k, k < 8 → parseFieldDescriptor (TX6 k).2.2.1 = some (tyX6 k) := by decide +kernel
abbrev cX6_init : ByteArray := prog_8_method_1_code
def yX6_init : MethodName := ⟨RX6, "<init>", "()V"⟩
abbrev cX6_copyFrom : ByteArray := prog_8_method_2_code
def yX6_copyFrom : MethodName := ⟨RX6, "copyFrom", "(LNoiseShaper$LoopPlan;)V"⟩
abbrev cX6_elementsOf : ByteArray := prog_8_method_3_code
def yX6_elementsOf : MethodName := ⟨RX6, "elementsOf", "(III)I"⟩
abbrev cX6_besides : ByteArray := prog_8_method_4_code
def yX6_besides : MethodName := ⟨RX6, "besides", "()I"⟩
abbrev cX6_valueOf : ByteArray := prog_8_method_5_code
def yX6_valueOf : MethodName := ⟨RX6, "valueOf", "(I)I"⟩
abbrev cX6_valueOfSmall : ByteArray := prog_8_method_6_code
def yX6_valueOfSmall : MethodName := ⟨RX6, "valueOfSmall", "(I)I"⟩
abbrev cX6_nearest : ByteArray := prog_8_method_7_code
def yX6_nearest : MethodName := ⟨RX6, "nearest", "(I)I"⟩
def RX7 : String := "NoiseShaper$Source"
def TX7 : u_T := fun k => match k with
  | 0 => ("NoiseShaper$Source", "kind", "I", false)
  | 1 => ("NoiseShaper$Source", "a", "I", false)
  | 2 => ("NoiseShaper$Source", "b", "I", false)
  | 3 => ("NoiseShaper$Source", "c", "I", false)
  | _ => ("NoiseShaper$Source", "samples", "[I", true)
def tyX7 : Nat → FieldType := fun k => match k with
  | 0 => .int
  | 1 => .int
  | 2 => .int
  | 3 => .int
  | _ => .array .int
abbrev wsX70 : List Cond := u_ws RX7 TX7 5
theorem nmX7 : ∀ a, a < 5 → ∀ b, b < 5 → a ≠ b → (TX7 a).2.1 ≠ (TX7 b).2.1 := by decide +kernel
theorem tyX7_ok : ∀ k, k < 5 → parseFieldDescriptor (TX7 k).2.2.1 = some (tyX7 k) := by decide +kernel
abbrev cX7_init : ByteArray := prog_9_method_1_code
def yX7_init : MethodName := ⟨RX7, "<init>", "()V"⟩
abbrev cX7_numberAt : ByteArray := prog_9_method_2_code
def yX7_numberAt : MethodName := ⟨RX7, "numberAt", "(I)I"⟩
abbrev cX7_numberUnbound : ByteArray := prog_9_method_3_code
def yX7_numberUnbound : MethodName := ⟨RX7, "numberUnbound", "(I)I"⟩
def RX8 : String := "NoiseShaper$Taps"
def TX8 : u_T := fun k => match k with
  | 0 => ("NoiseShaper$Taps", "toldTaps", "[I", true)
  | _ => ("NoiseShaper$Taps", "toldShift", "I", false)
def tyX8 : Nat → FieldType := fun k => match k with
  | 0 => .array .int
  | _ => .int
abbrev wsX80 : List Cond := u_ws RX8 TX8 2
theorem nmX8 : ∀ a, a < 2 → ∀ b, b < 2 → a ≠ b → (TX8 a).2.1 ≠ (TX8 b).2.1 := by decide +kernel
theorem tyX8_ok : ∀ k, k < 2 → parseFieldDescriptor (TX8 k).2.2.1 = some (tyX8 k) := by decide +kernel
abbrev cX8_init : ByteArray := prog_10_method_1_code
def yX8_init : MethodName := ⟨RX8, "<init>", "()V"⟩
abbrev cX8_isKind : ByteArray := prog_10_method_2_code
def yX8_isKind : MethodName := ⟨RX8, "isKind", "(I)Z"⟩
abbrev cX8_tell : ByteArray := prog_10_method_3_code
def yX8_tell : MethodName := ⟨RX8, "tell", "(IIIII)V"⟩
abbrev cX8_rowOf : ByteArray := prog_10_method_4_code
def yX8_rowOf : MethodName := ⟨RX8, "rowOf", "(I)[I"⟩
abbrev cX8_shiftOf : ByteArray := prog_10_method_5_code
def yX8_shiftOf : MethodName := ⟨RX8, "shiftOf", "(I)I"⟩
abbrev cX8_sumOf : ByteArray := prog_10_method_6_code
def yX8_sumOf : MethodName := ⟨RX8, "sumOf", "(I)I"⟩
abbrev cX8_isHalfBand : ByteArray := prog_10_method_7_code
def yX8_isHalfBand : MethodName := ⟨RX8, "isHalfBand", "(I)Z"⟩
abbrev cX8_plainOf : ByteArray := prog_10_method_8_code
def yX8_plainOf : MethodName := ⟨RX8, "plainOf", "(I)I"⟩
abbrev cX8_foldedOf : ByteArray := prog_10_method_9_code
def yX8_foldedOf : MethodName := ⟨RX8, "foldedOf", "(I)I"⟩
abbrev cX8_manyOf : ByteArray := prog_10_method_10_code
def yX8_manyOf : MethodName := ⟨RX8, "manyOf", "(II)I"⟩
def RX9 : String := "NoiseShaper$Tone"
def TX9 : u_T := fun k => match k with
  | 0 => ("NoiseShaper$Tone", "outs", "[I", true)
  | 1 => ("NoiseShaper$Tone", "states", "[I", true)
  | 2 => ("NoiseShaper$Tone", "cells", "[I", true)
  | 3 => ("NoiseShaper$Tone", "comesRound", "Z", false)
  | 4 => ("NoiseShaper$Tone", "lead", "I", false)
  | _ => ("NoiseShaper$Tone", "period", "I", false)
def tyX9 : Nat → FieldType := fun k => match k with
  | 0 => .array .int
  | 1 => .array .int
  | 2 => .array .int
  | 3 => .boolean
  | 4 => .int
  | _ => .int
abbrev wsX90 : List Cond := u_ws RX9 TX9 6
theorem nmX9 : ∀ a, a < 6 → ∀ b, b < 6 → a ≠ b → (TX9 a).2.1 ≠ (TX9 b).2.1 := by decide +kernel
theorem tyX9_ok : ∀ k, k < 6 → parseFieldDescriptor (TX9 k).2.2.1 = some (tyX9 k) := by decide +kernel
abbrev cX9_init : ByteArray := prog_11_method_1_code
def yX9_init : MethodName := ⟨RX9, "<init>", "()V"⟩
abbrev cX9_follow : ByteArray := prog_11_method_2_code
def yX9_follow : MethodName := ⟨RX9, "follow", "(LNoiseShaper$Loop;LNoiseShaper$LoopPlan;I)V"⟩
abbrev cX9_total : ByteArray := prog_11_method_3_code
def yX9_total : MethodName := ⟨RX9, "total", "()I"⟩
abbrev cX9_unlike : ByteArray := prog_11_method_4_code
def yX9_unlike : MethodName := ⟨RX9, "unlike", "()I"⟩
abbrev cX9_changes : ByteArray := prog_11_method_5_code
def yX9_changes : MethodName := ⟨RX9, "changes", "()I"⟩
abbrev cX9_longestRun : ByteArray := prog_11_method_6_code
def yX9_longestRun : MethodName := ⟨RX9, "longestRun", "()I"⟩
abbrev cX9_patternAt : ByteArray := prog_11_method_7_code
def yX9_patternAt : MethodName := ⟨RX9, "patternAt", "(I)I"⟩
abbrev cX9_findOrPut : ByteArray := prog_11_method_8_code
def yX9_findOrPut : MethodName := ⟨RX9, "findOrPut", "(I)I"⟩
abbrev cX9_cellOf : ByteArray := prog_11_method_9_code
def yX9_cellOf : MethodName := ⟨RX9, "cellOf", "(I)I"⟩
abbrev cX9_isSame : ByteArray := prog_11_method_10_code
def yX9_isSame : MethodName := ⟨RX9, "isSame", "(II)Z"⟩
def RX10 : String := "NoiseShaper"
def TX10 : u_T := fun k => match k with
  | 0 => ("NoiseShaper", "status", "I", false)
  | 1 => ("NoiseShaper", "clock", "I", false)
  | 2 => ("NoiseShaper", "manyFolds", "I", false)
  | 3 => ("NoiseShaper", "source", "LNoiseShaper$Source;", true)
  | 4 => ("NoiseShaper", "loop", "LNoiseShaper$Loop;", true)
  | 5 => ("NoiseShaper", "elements", "LNoiseShaper$Elements;", true)
  | 6 => ("NoiseShaper", "comb", "LNoiseShaper$Comb;", true)
  | 7 => ("NoiseShaper", "taps", "LNoiseShaper$Taps;", true)
  | 8 => ("NoiseShaper", "folds", "[LNoiseShaper$Fold;", true)
  | 9 => ("NoiseShaper", "latest", "[LNoiseShaper$Latest;", true)
  | 10 => ("NoiseShaper", "asked", "LNoiseShaper$Asked;", true)
  | 11 => ("NoiseShaper", "paperLoop", "LNoiseShaper$Loop;", true)
  | 12 => ("NoiseShaper", "paperElements", "LNoiseShaper$Elements;", true)
  | _ => ("NoiseShaper", "tone", "LNoiseShaper$Tone;", true)
def tyX10 : Nat → FieldType := fun k => match k with
  | 0 => .int
  | 1 => .int
  | 2 => .int
  | 3 => .object "NoiseShaper$Source"
  | 4 => .object "NoiseShaper$Loop"
  | 5 => .object "NoiseShaper$Elements"
  | 6 => .object "NoiseShaper$Comb"
  | 7 => .object "NoiseShaper$Taps"
  | 8 => .array (.object "NoiseShaper$Fold")
  | 9 => .array (.object "NoiseShaper$Latest")
  | 10 => .object "NoiseShaper$Asked"
  | 11 => .object "NoiseShaper$Loop"
  | 12 => .object "NoiseShaper$Elements"
  | _ => .object "NoiseShaper$Tone"
abbrev wsX100 : List Cond := u_ws RX10 TX10 14
theorem nmX10 : ∀ a, a < 14 → ∀ b, b < 14 → a ≠ b → (TX10 a).2.1 ≠ (TX10 b).2.1 := by decide +kernel
theorem tyX10_ok : ∀ k, k < 14 → parseFieldDescriptor (TX10 k).2.2.1 = some (tyX10 k) := by decide +kernel
abbrev cX10_init : ByteArray := prog_1_method_1_code
def yX10_init : MethodName := ⟨RX10, "<init>", "()V"⟩
abbrev cX10_status : ByteArray := prog_1_method_2_code
def yX10_status : MethodName := ⟨RX10, "status", "()I"⟩
abbrev cX10_source : ByteArray := prog_1_method_3_code
def yX10_source : MethodName := ⟨RX10, "source", "(IIII)I"⟩
abbrev cX10_sample : ByteArray := prog_1_method_4_code
def yX10_sample : MethodName := ⟨RX10, "sample", "(II)I"⟩
abbrev cX10_loop : ByteArray := prog_1_method_5_code
def yX10_loop : MethodName := ⟨RX10, "loop", "(IIIIIZ)I"⟩
abbrev cX10_dither : ByteArray := prog_1_method_6_code
def yX10_dither : MethodName := ⟨RX10, "dither", "(II)I"⟩
abbrev cX10_way : ByteArray := prog_1_method_7_code
def yX10_way : MethodName := ⟨RX10, "way", "(I)I"⟩
abbrev cX10_deviation : ByteArray := prog_1_method_8_code
def yX10_deviation : MethodName := ⟨RX10, "deviation", "(II)I"⟩
abbrev cX10_comb : ByteArray := prog_1_method_9_code
def yX10_comb : MethodName := ⟨RX10, "comb", "(IIII)I"⟩
abbrev cX10_taps : ByteArray := prog_1_method_10_code
def yX10_taps : MethodName := ⟨RX10, "taps", "(IIIII)I"⟩
abbrev cX10_folds : ByteArray := prog_1_method_11_code
def yX10_folds : MethodName := ⟨RX10, "folds", "(IIII)I"⟩
abbrev cX10_anew : ByteArray := prog_1_method_12_code
def yX10_anew : MethodName := ⟨RX10, "anew", "(I)I"⟩
abbrev cX10_clocks : ByteArray := prog_1_method_13_code
def yX10_clocks : MethodName := ⟨RX10, "clocks", "(I)I"⟩
abbrev cX10_told : ByteArray := prog_1_method_14_code
def yX10_told : MethodName := ⟨RX10, "told", "(I)I"⟩
abbrev cX10_latest : ByteArray := prog_1_method_15_code
def yX10_latest : MethodName := ⟨RX10, "latest", "(II)I"⟩
abbrev cX10_state : ByteArray := prog_1_method_16_code
def yX10_state : MethodName := ⟨RX10, "state", "(I)I"⟩
abbrev cX10_sum : ByteArray := prog_1_method_17_code
def yX10_sum : MethodName := ⟨RX10, "sum", "(I)J"⟩
abbrev cX10_gap : ByteArray := prog_1_method_18_code
def yX10_gap : MethodName := ⟨RX10, "gap", "(II)J"⟩
abbrev cX10_range : ByteArray := prog_1_method_19_code
def yX10_range : MethodName := ⟨RX10, "range", "(II)J"⟩
abbrev cX10_steady : ByteArray := prog_1_method_20_code
def yX10_steady : MethodName := ⟨RX10, "steady", "(II)I"⟩
abbrev cX10_element : ByteArray := prog_1_method_21_code
def yX10_element : MethodName := ⟨RX10, "element", "(II)I"⟩
abbrev cX10_spread : ByteArray := prog_1_method_22_code
def yX10_spread : MethodName := ⟨RX10, "spread", "()I"⟩
abbrev cX10_combed : ByteArray := prog_1_method_23_code
def yX10_combed : MethodName := ⟨RX10, "combed", "(I)I"⟩
abbrev cX10_wrong : ByteArray := prog_1_method_24_code
def yX10_wrong : MethodName := ⟨RX10, "wrong", "(I)J"⟩
abbrev cX10_work : ByteArray := prog_1_method_25_code
def yX10_work : MethodName := ⟨RX10, "work", "(II)I"⟩
abbrev cX10_need : ByteArray := prog_1_method_26_code
def yX10_need : MethodName := ⟨RX10, "need", "(I)I"⟩
abbrev cX10_response : ByteArray := prog_1_method_27_code
def yX10_response : MethodName := ⟨RX10, "response", "(I)I"⟩
abbrev cX10_half : ByteArray := prog_1_method_28_code
def yX10_half : MethodName := ⟨RX10, "half", "(II)I"⟩
abbrev cX10_beat : ByteArray := prog_1_method_29_code
def yX10_beat : MethodName := ⟨RX10, "beat", "(II)J"⟩
abbrev cX10_tonal : ByteArray := prog_1_method_30_code
def yX10_tonal : MethodName := ⟨RX10, "tonal", "(I)I"⟩
abbrev cX10_tone : ByteArray := prog_1_method_31_code
def yX10_tone : MethodName := ⟨RX10, "tone", "(II)I"⟩
abbrev cX10_out : ByteArray := prog_1_method_32_code
def yX10_out : MethodName := ⟨RX10, "out", "(II)I"⟩
abbrev cX10_asked : ByteArray := prog_1_method_33_code
def yX10_asked : MethodName := ⟨RX10, "asked", "(I)I"⟩
abbrev cX10_idle : ByteArray := prog_1_method_34_code
def yX10_idle : MethodName := ⟨RX10, "idle", "(IIII)I"⟩
abbrev cX10_next : ByteArray := prog_1_method_35_code
def yX10_next : MethodName := ⟨RX10, "next", "(I)I"⟩
abbrev cX10_ahead : ByteArray := prog_1_method_36_code
def yX10_ahead : MethodName := ⟨RX10, "ahead", "(III)J"⟩
abbrev cX10_strain : ByteArray := prog_1_method_37_code
def yX10_strain : MethodName := ⟨RX10, "strain", "(II)I"⟩
abbrev cX10_calmed : ByteArray := prog_1_method_38_code
def yX10_calmed : MethodName := ⟨RX10, "calmed", "(II)I"⟩
abbrev cX10_refuse : ByteArray := prog_1_method_39_code
def yX10_refuse : MethodName := ⟨RX10, "refuse", "(I)I"⟩
abbrev cX10_answer : ByteArray := prog_1_method_40_code
def yX10_answer : MethodName := ⟨RX10, "answer", "(I)I"⟩
abbrev cX10_answerLong : ByteArray := prog_1_method_41_code
def yX10_answerLong : MethodName := ⟨RX10, "answerLong", "(J)J"⟩
abbrev cX10_within : ByteArray := prog_1_method_42_code
def yX10_within : MethodName := ⟨RX10, "within", "(III)Z"⟩
abbrev cX10_isNumber : ByteArray := prog_1_method_43_code
def yX10_isNumber : MethodName := ⟨RX10, "isNumber", "(I)Z"⟩
abbrev cX10_isTap : ByteArray := prog_1_method_44_code
def yX10_isTap : MethodName := ⟨RX10, "isTap", "(I)Z"⟩
abbrev cX10_isStage : ByteArray := prog_1_method_45_code
def yX10_isStage : MethodName := ⟨RX10, "isStage", "(I)Z"⟩
abbrev cX10_putTo : ByteArray := prog_1_method_46_code
def yX10_putTo : MethodName := ⟨RX10, "putTo", "(II)I"⟩
abbrev cX10_beginAnewFrom : ByteArray := prog_1_method_47_code
def yX10_beginAnewFrom : MethodName := ⟨RX10, "beginAnewFrom", "(I)V"⟩
abbrev cX10_oneClock : ByteArray := prog_1_method_48_code
def yX10_oneClock : MethodName := ⟨RX10, "oneClock", "()V"⟩
abbrev cX10_handToFolds : ByteArray := prog_1_method_49_code
def yX10_handToFolds : MethodName := ⟨RX10, "handToFolds", "(I)V"⟩
abbrev cX10_keptByLoop : ByteArray := prog_1_method_50_code
def yX10_keptByLoop : MethodName := ⟨RX10, "keptByLoop", "()I"⟩
abbrev cX10_greatestGapOf : ByteArray := prog_1_method_51_code
def yX10_greatestGapOf : MethodName := ⟨RX10, "greatestGapOf", "(I)J"⟩
abbrev cX10_hitClocksAhead : ByteArray := prog_1_method_52_code
def yX10_hitClocksAhead : MethodName := ⟨RX10, "hitClocksAhead", "(II)I"⟩
def RX11 : String := "NoiseShaperModel"
def TX11 : u_T := fun k => match k with
  | 0 => ("NoiseShaperModel", "run", "[J", true)
  | 1 => ("NoiseShaperModel", "aside", "[J", true)
  | 2 => ("NoiseShaperModel", "status", "I", false)
  | 3 => ("NoiseShaperModel", "kind", "I", false)
  | 4 => ("NoiseShaperModel", "a", "I", false)
  | 5 => ("NoiseShaperModel", "b", "I", false)
  | 6 => ("NoiseShaperModel", "c", "I", false)
  | 7 => ("NoiseShaperModel", "loop", "I", false)
  | 8 => ("NoiseShaperModel", "order", "I", false)
  | 9 => ("NoiseShaperModel", "step", "I", false)
  | 10 => ("NoiseShaperModel", "levels", "I", false)
  | 11 => ("NoiseShaperModel", "limit", "I", false)
  | 12 => ("NoiseShaperModel", "dither", "I", false)
  | 13 => ("NoiseShaperModel", "seed", "I", false)
  | 14 => ("NoiseShaperModel", "isCalm", "Z", false)
  | 15 => ("NoiseShaperModel", "way", "I", false)
  | 16 => ("NoiseShaperModel", "combOrder", "I", false)
  | 17 => ("NoiseShaperModel", "ratio", "I", false)
  | 18 => ("NoiseShaperModel", "width", "I", false)
  | 19 => ("NoiseShaperModel", "in", "I", false)
  | 20 => ("NoiseShaperModel", "folds", "I", false)
  | 21 => ("NoiseShaperModel", "tapShift", "I", false)
  | 22 => ("NoiseShaperModel", "samples", "[I", true)
  | 23 => ("NoiseShaperModel", "deviations", "[I", true)
  | 24 => ("NoiseShaperModel", "foldTaps", "[I", true)
  | 25 => ("NoiseShaperModel", "ownTaps", "[I", true)
  | 26 => ("NoiseShaperModel", "ones", "[I", true)
  | 27 => ("NoiseShaperModel", "folded", "[I", true)
  | 28 => ("NoiseShaperModel", "states", "[J", true)
  | 29 => ("NoiseShaperModel", "outs", "[I", true)
  | 30 => ("NoiseShaperModel", "lead", "I", false)
  | 31 => ("NoiseShaperModel", "period", "I", false)
  | 32 => ("NoiseShaperModel", "asked", "[I", true)
  | 33 => ("NoiseShaperModel", "askedMany", "I", false)
  | _ => ("NoiseShaperModel", "trial", "[J", true)
def tyX11 : Nat → FieldType := fun k => match k with
  | 0 => .array .long
  | 1 => .array .long
  | 2 => .int
  | 3 => .int
  | 4 => .int
  | 5 => .int
  | 6 => .int
  | 7 => .int
  | 8 => .int
  | 9 => .int
  | 10 => .int
  | 11 => .int
  | 12 => .int
  | 13 => .int
  | 14 => .boolean
  | 15 => .int
  | 16 => .int
  | 17 => .int
  | 18 => .int
  | 19 => .int
  | 20 => .int
  | 21 => .int
  | 22 => .array .int
  | 23 => .array .int
  | 24 => .array .int
  | 25 => .array .int
  | 26 => .array .int
  | 27 => .array .int
  | 28 => .array .long
  | 29 => .array .int
  | 30 => .int
  | 31 => .int
  | 32 => .array .int
  | 33 => .int
  | _ => .array .long
abbrev wsX110 : List Cond := u_ws RX11 TX11 35
theorem nmX11 : ∀ a, a < 35 → ∀ b, b < 35 → a ≠ b → (TX11 a).2.1 ≠ (TX11 b).2.1 := by decide +kernel
theorem tyX11_ok : ∀ k, k < 35 → parseFieldDescriptor (TX11 k).2.2.1 = some (tyX11 k) := by decide +kernel
abbrev cX11_init : ByteArray := prog_13_method_1_code
def yX11_init : MethodName := ⟨RX11, "<init>", "()V"⟩
abbrev cX11_status : ByteArray := prog_13_method_2_code
def yX11_status : MethodName := ⟨RX11, "status", "()I"⟩
abbrev cX11_refuse : ByteArray := prog_13_method_3_code
def yX11_refuse : MethodName := ⟨RX11, "refuse", "(I)I"⟩
abbrev cX11_gives : ByteArray := prog_13_method_4_code
def yX11_gives : MethodName := ⟨RX11, "gives", "(I)I"⟩
abbrev cX11_givesLong : ByteArray := prog_13_method_5_code
def yX11_givesLong : MethodName := ⟨RX11, "givesLong", "(J)J"⟩
abbrev cX11_isFrom : ByteArray := prog_13_method_6_code
def yX11_isFrom : MethodName := ⟨RX11, "isFrom", "(III)Z"⟩
abbrev cX11_isFar : ByteArray := prog_13_method_7_code
def yX11_isFar : MethodName := ⟨RX11, "isFar", "(I)Z"⟩
abbrev cX11_get : ByteArray := prog_13_method_8_code
def yX11_get : MethodName := ⟨RX11, "get", "(I)I"⟩
abbrev cX11_copies : ByteArray := prog_13_method_9_code
def yX11_copies : MethodName := ⟨RX11, "copies", "([J[J)V"⟩
abbrev cX11_wipes : ByteArray := prog_13_method_10_code
def yX11_wipes : MethodName := ⟨RX11, "wipes", "(II)V"⟩
abbrev cX11_begins : ByteArray := prog_13_method_11_code
def yX11_begins : MethodName := ⟨RX11, "begins", "(I)V"⟩
abbrev cX11_beginsLoop : ByteArray := prog_13_method_12_code
def yX11_beginsLoop : MethodName := ⟨RX11, "beginsLoop", "()V"⟩
abbrev cX11_beginsElements : ByteArray := prog_13_method_13_code
def yX11_beginsElements : MethodName := ⟨RX11, "beginsElements", "()V"⟩
abbrev cX11_elements : ByteArray := prog_13_method_14_code
def yX11_elements : MethodName := ⟨RX11, "elements", "()I"⟩
abbrev cX11_besides : ByteArray := prog_13_method_15_code
def yX11_besides : MethodName := ⟨RX11, "besides", "()I"⟩
abbrev cX11_weight : ByteArray := prog_13_method_16_code
def yX11_weight : MethodName := ⟨RX11, "weight", "(I)I"⟩
abbrev cX11_weights : ByteArray := prog_13_method_17_code
def yX11_weights : MethodName := ⟨RX11, "weights", "()I"⟩
abbrev cX11_tells : ByteArray := prog_13_method_18_code
def yX11_tells : MethodName := ⟨RX11, "tells", "(IJ)V"⟩
abbrev cX11_many : ByteArray := prog_13_method_19_code
def yX11_many : MethodName := ⟨RX11, "many", "(I)I"⟩
abbrev cX11_latestOf : ByteArray := prog_13_method_20_code
def yX11_latestOf : MethodName := ⟨RX11, "latestOf", "(II)J"⟩
abbrev cX11_sourceAt : ByteArray := prog_13_method_21_code
def yX11_sourceAt : MethodName := ⟨RX11, "sourceAt", "(I)I"⟩
abbrev cX11_valueOf : ByteArray := prog_13_method_22_code
def yX11_valueOf : MethodName := ⟨RX11, "valueOf", "(I)I"⟩
abbrev cX11_nearest : ByteArray := prog_13_method_23_code
def yX11_nearest : MethodName := ⟨RX11, "nearest", "(I)I"⟩
abbrev cX11_held : ByteArray := prog_13_method_24_code
def yX11_held : MethodName := ⟨RX11, "held", "(I)I"⟩
abbrev cX11_drawn : ByteArray := prog_13_method_25_code
def yX11_drawn : MethodName := ⟨RX11, "drawn", "()I"⟩
abbrev cX11_loops : ByteArray := prog_13_method_26_code
def yX11_loops : MethodName := ⟨RX11, "loops", "(II)I"⟩
abbrev cX11_byErrors : ByteArray := prog_13_method_27_code
def yX11_byErrors : MethodName := ⟨RX11, "byErrors", "(II)I"⟩
abbrev cX11_bySums : ByteArray := prog_13_method_28_code
def yX11_bySums : MethodName := ⟨RX11, "bySums", "(II)I"⟩
abbrev cX11_byCascade : ByteArray := prog_13_method_29_code
def yX11_byCascade : MethodName := ⟨RX11, "byCascade", "(II)I"⟩
abbrev cX11_wouldBeOn : ByteArray := prog_13_method_30_code
def yX11_wouldBeOn : MethodName := ⟨RX11, "wouldBeOn", "(I)I"⟩
abbrev cX11_bounded : ByteArray := prog_13_method_31_code
def yX11_bounded : MethodName := ⟨RX11, "bounded", "(J)J"⟩
abbrev cX11_goesElements : ByteArray := prog_13_method_32_code
def yX11_goesElements : MethodName := ⟨RX11, "goesElements", "(I)I"⟩
abbrev cX11_worded : ByteArray := prog_13_method_33_code
def yX11_worded : MethodName := ⟨RX11, "worded", "(J)J"⟩
abbrev cX11_combs : ByteArray := prog_13_method_34_code
def yX11_combs : MethodName := ⟨RX11, "combs", "(J)Z"⟩
abbrev cX11_tapMany : ByteArray := prog_13_method_35_code
def yX11_tapMany : MethodName := ⟨RX11, "tapMany", "(I)I"⟩
abbrev cX11_tapOf : ByteArray := prog_13_method_36_code
def yX11_tapOf : MethodName := ⟨RX11, "tapOf", "(II)I"⟩
abbrev cX11_shiftOf : ByteArray := prog_13_method_37_code
def yX11_shiftOf : MethodName := ⟨RX11, "shiftOf", "(I)I"⟩
abbrev cX11_folds : ByteArray := prog_13_method_38_code
def yX11_folds : MethodName := ⟨RX11, "folds", "(IJ)Z"⟩
abbrev cX11_goes : ByteArray := prog_13_method_39_code
def yX11_goes : MethodName := ⟨RX11, "goes", "()V"⟩
abbrev cX11_source : ByteArray := prog_13_method_40_code
def yX11_source : MethodName := ⟨RX11, "source", "(IIII)I"⟩
abbrev cX11_sample : ByteArray := prog_13_method_41_code
def yX11_sample : MethodName := ⟨RX11, "sample", "(II)I"⟩
abbrev cX11_loop : ByteArray := prog_13_method_42_code
def yX11_loop : MethodName := ⟨RX11, "loop", "(IIIIIZ)I"⟩
abbrev cX11_dither : ByteArray := prog_13_method_43_code
def yX11_dither : MethodName := ⟨RX11, "dither", "(II)I"⟩
abbrev cX11_way : ByteArray := prog_13_method_44_code
def yX11_way : MethodName := ⟨RX11, "way", "(I)I"⟩
abbrev cX11_deviation : ByteArray := prog_13_method_45_code
def yX11_deviation : MethodName := ⟨RX11, "deviation", "(II)I"⟩
abbrev cX11_comb : ByteArray := prog_13_method_46_code
def yX11_comb : MethodName := ⟨RX11, "comb", "(IIII)I"⟩
abbrev cX11_taps : ByteArray := prog_13_method_47_code
def yX11_taps : MethodName := ⟨RX11, "taps", "(IIIII)I"⟩
abbrev cX11_isTap : ByteArray := prog_13_method_48_code
def yX11_isTap : MethodName := ⟨RX11, "isTap", "(I)Z"⟩
abbrev cX11_folds_ : ByteArray := prog_13_method_49_code
def yX11_folds_ : MethodName := ⟨RX11, "folds", "(IIII)I"⟩
abbrev cX11_isStage : ByteArray := prog_13_method_50_code
def yX11_isStage : MethodName := ⟨RX11, "isStage", "(I)Z"⟩
abbrev cX11_anew : ByteArray := prog_13_method_51_code
def yX11_anew : MethodName := ⟨RX11, "anew", "(I)I"⟩
abbrev cX11_clocks : ByteArray := prog_13_method_52_code
def yX11_clocks : MethodName := ⟨RX11, "clocks", "(I)I"⟩
abbrev cX11_told : ByteArray := prog_13_method_53_code
def yX11_told : MethodName := ⟨RX11, "told", "(I)I"⟩
abbrev cX11_latest : ByteArray := prog_13_method_54_code
def yX11_latest : MethodName := ⟨RX11, "latest", "(II)I"⟩
abbrev cX11_state : ByteArray := prog_13_method_55_code
def yX11_state : MethodName := ⟨RX11, "state", "(I)I"⟩
abbrev cX11_sum : ByteArray := prog_13_method_56_code
def yX11_sum : MethodName := ⟨RX11, "sum", "(I)J"⟩
abbrev cX11_gap : ByteArray := prog_13_method_57_code
def yX11_gap : MethodName := ⟨RX11, "gap", "(II)J"⟩
abbrev cX11_range : ByteArray := prog_13_method_58_code
def yX11_range : MethodName := ⟨RX11, "range", "(II)J"⟩
abbrev cX11_steady : ByteArray := prog_13_method_59_code
def yX11_steady : MethodName := ⟨RX11, "steady", "(II)I"⟩
abbrev cX11_element : ByteArray := prog_13_method_60_code
def yX11_element : MethodName := ⟨RX11, "element", "(II)I"⟩
abbrev cX11_spreadNow : ByteArray := prog_13_method_61_code
def yX11_spreadNow : MethodName := ⟨RX11, "spreadNow", "()I"⟩
abbrev cX11_spread : ByteArray := prog_13_method_62_code
def yX11_spread : MethodName := ⟨RX11, "spread", "()I"⟩
abbrev cX11_combed : ByteArray := prog_13_method_63_code
def yX11_combed : MethodName := ⟨RX11, "combed", "(I)I"⟩
abbrev cX11_wrong : ByteArray := prog_13_method_64_code
def yX11_wrong : MethodName := ⟨RX11, "wrong", "(I)J"⟩
abbrev cX11_unlikeNone : ByteArray := prog_13_method_65_code
def yX11_unlikeNone : MethodName := ⟨RX11, "unlikeNone", "(I)I"⟩
abbrev cX11_work : ByteArray := prog_13_method_66_code
def yX11_work : MethodName := ⟨RX11, "work", "(II)I"⟩
abbrev cX11_needFor : ByteArray := prog_13_method_67_code
def yX11_needFor : MethodName := ⟨RX11, "needFor", "(I)I"⟩
abbrev cX11_need : ByteArray := prog_13_method_68_code
def yX11_need : MethodName := ⟨RX11, "need", "(I)I"⟩
abbrev cX11_response : ByteArray := prog_13_method_69_code
def yX11_response : MethodName := ⟨RX11, "response", "(I)I"⟩
abbrev cX11_half : ByteArray := prog_13_method_70_code
def yX11_half : MethodName := ⟨RX11, "half", "(II)I"⟩
abbrev cX11_beatOf : ByteArray := prog_13_method_71_code
def yX11_beatOf : MethodName := ⟨RX11, "beatOf", "(II)J"⟩
abbrev cX11_beat : ByteArray := prog_13_method_72_code
def yX11_beat : MethodName := ⟨RX11, "beat", "(II)J"⟩
abbrev cX11_tonal : ByteArray := prog_13_method_73_code
def yX11_tonal : MethodName := ⟨RX11, "tonal", "(I)I"⟩
abbrev cX11_lays : ByteArray := prog_13_method_74_code
def yX11_lays : MethodName := ⟨RX11, "lays", "(I)V"⟩
abbrev cX11_isLike : ByteArray := prog_13_method_75_code
def yX11_isLike : MethodName := ⟨RX11, "isLike", "(II)Z"⟩
abbrev cX11_tones : ByteArray := prog_13_method_76_code
def yX11_tones : MethodName := ⟨RX11, "tones", "(IZ)V"⟩
abbrev cX11_asks : ByteArray := prog_13_method_77_code
def yX11_asks : MethodName := ⟨RX11, "asks", "(I)V"⟩
abbrev cX11_inPattern : ByteArray := prog_13_method_78_code
def yX11_inPattern : MethodName := ⟨RX11, "inPattern", "(I)I"⟩
abbrev cX11_ofPattern : ByteArray := prog_13_method_79_code
def yX11_ofPattern : MethodName := ⟨RX11, "ofPattern", "(I)I"⟩
abbrev cX11_tone : ByteArray := prog_13_method_80_code
def yX11_tone : MethodName := ⟨RX11, "tone", "(II)I"⟩
abbrev cX11_out : ByteArray := prog_13_method_81_code
def yX11_out : MethodName := ⟨RX11, "out", "(II)I"⟩
abbrev cX11_asked : ByteArray := prog_13_method_82_code
def yX11_asked : MethodName := ⟨RX11, "asked", "(I)I"⟩
abbrev cX11_idle : ByteArray := prog_13_method_83_code
def yX11_idle : MethodName := ⟨RX11, "idle", "(IIII)I"⟩
abbrev cX11_next : ByteArray := prog_13_method_84_code
def yX11_next : MethodName := ⟨RX11, "next", "(I)I"⟩
abbrev cX11_ahead : ByteArray := prog_13_method_85_code
def yX11_ahead : MethodName := ⟨RX11, "ahead", "(III)J"⟩
abbrev cX11_strained : ByteArray := prog_13_method_86_code
def yX11_strained : MethodName := ⟨RX11, "strained", "(II)I"⟩
abbrev cX11_strain : ByteArray := prog_13_method_87_code
def yX11_strain : MethodName := ⟨RX11, "strain", "(II)I"⟩
abbrev cX11_calmed : ByteArray := prog_13_method_88_code
def yX11_calmed : MethodName := ⟨RX11, "calmed", "(II)I"⟩
def RJ6 : String := "java/lang/Integer"
def TJ6 : u_T := fun k => match k with
  | _ => ("", "", "", false)
def tyJ6 : Nat → FieldType := fun k => match k with
  | _ => .int
abbrev wsJ60 : List Cond := u_ws RJ6 TJ6 0
theorem nmJ6 : ∀ a, a < 0 → ∀ b, b < 0 → a ≠ b → (TJ6 a).2.1 ≠ (TJ6 b).2.1 := by decide +kernel
theorem tyJ6_ok : ∀ k, k < 0 → parseFieldDescriptor (TJ6 k).2.2.1 = some (tyJ6 k) := by decide +kernel
abbrev cJ6_bitCount_0f7a4 : ByteArray := prog_14_method_49_code
def yJ6_bitCount_0f7a4 : MethodName := ⟨RJ6, "bitCount", "(I)I"⟩
def RJ9 : String := "java/lang/Math"
def TJ9 : u_T := fun k => match k with
  | _ => ("", "", "", false)
def tyJ9 : Nat → FieldType := fun k => match k with
  | _ => .int
abbrev wsJ90 : List Cond := u_ws RJ9 TJ9 0
theorem nmJ9 : ∀ a, a < 0 → ∀ b, b < 0 → a ≠ b → (TJ9 a).2.1 ≠ (TJ9 b).2.1 := by decide +kernel
theorem tyJ9_ok : ∀ k, k < 0 → parseFieldDescriptor (TJ9 k).2.2.1 = some (tyJ9 k) := by decide +kernel
abbrev cJ9_floorDiv_7cf53 : ByteArray := prog_15_method_47_code
def yJ9_floorDiv_7cf53 : MethodName := ⟨RJ9, "floorDiv", "(II)I"⟩
abbrev cJ9_floorMod_7cf53 : ByteArray := prog_15_method_50_code
def yJ9_floorMod_7cf53 : MethodName := ⟨RJ9, "floorMod", "(II)I"⟩
abbrev cJ9_abs_0f7a4 : ByteArray := prog_15_method_59_code
def yJ9_abs_0f7a4 : MethodName := ⟨RJ9, "abs", "(I)I"⟩
abbrev cJ9_abs_067f4 : ByteArray := prog_15_method_61_code
def yJ9_abs_067f4 : MethodName := ⟨RJ9, "abs", "(J)J"⟩
abbrev cJ9_max_7cf53 : ByteArray := prog_15_method_65_code
def yJ9_max_7cf53 : MethodName := ⟨RJ9, "max", "(II)I"⟩
abbrev cJ9_max_f86c9 : ByteArray := prog_15_method_66_code
def yJ9_max_f86c9 : MethodName := ⟨RJ9, "max", "(JJ)J"⟩
abbrev cJ9_min_7cf53 : ByteArray := prog_15_method_69_code
def yJ9_min_7cf53 : MethodName := ⟨RJ9, "min", "(II)I"⟩
abbrev cJ9_min_f86c9 : ByteArray := prog_15_method_70_code
def yJ9_min_f86c9 : MethodName := ⟨RJ9, "min", "(JJ)J"⟩
def RJ10 : String := "java/lang/System"
def TJ10 : u_T := fun k => match k with
  | _ => ("", "", "", false)
def tyJ10 : Nat → FieldType := fun k => match k with
  | _ => .int
abbrev wsJ100 : List Cond := u_ws RJ10 TJ10 0
theorem nmJ10 : ∀ a, a < 0 → ∀ b, b < 0 → a ≠ b → (TJ10 a).2.1 ≠ (TJ10 b).2.1 := by decide +kernel
theorem tyJ10_ok : ∀ k, k < 0 → parseFieldDescriptor (TJ10 k).2.2.1 = some (tyJ10 k) := by decide +kernel
def RJ7 : String := "java/util/Arrays"
def TJ7 : u_T := fun k => match k with
  | _ => ("", "", "", false)
def tyJ7 : Nat → FieldType := fun k => match k with
  | _ => .int
abbrev wsJ70 : List Cond := u_ws RJ7 TJ7 0
theorem nmJ7 : ∀ a, a < 0 → ∀ b, b < 0 → a ≠ b → (TJ7 a).2.1 ≠ (TJ7 b).2.1 := by decide +kernel
theorem tyJ7_ok : ∀ k, k < 0 → parseFieldDescriptor (TJ7 k).2.2.1 = some (tyJ7 k) := by decide +kernel
abbrev cJ7_fill_d0a16 : ByteArray := prog_17_method_101_code
def yJ7_fill_d0a16 : MethodName := ⟨RJ7, "fill", "([JJ)V"⟩
abbrev cJ7_fill_53178 : ByteArray := prog_17_method_103_code
def yJ7_fill_53178 : MethodName := ⟨RJ7, "fill", "([II)V"⟩
def RL : String := "NoiseShaperLaw"
abbrev cL_law : ByteArray := code
def yL_law : MethodName := ⟨RL, "law", "([I)Z"⟩
abbrev vwCl : List vw_C := [(RX0, TX0, 2), (RX1, TX1, 10), (RX2, TX2, 11), (RX3, TX3, 4), (RX4, TX4, 4), (RX5, TX5, 14), (RX6, TX6, 8), (RX7, TX7, 5), (RX8, TX8, 2), (RX9, TX9, 6), (RX10, TX10, 14), (RX11, TX11, 35)]
theorem inX0 : ∀ w ∈ wsX00, w ∈ lw_tbl := by decide +kernel
theorem inX1 : ∀ w ∈ wsX10, w ∈ lw_tbl := by decide +kernel
theorem inX2 : ∀ w ∈ wsX20, w ∈ lw_tbl := by decide +kernel
theorem inX3 : ∀ w ∈ wsX30, w ∈ lw_tbl := by decide +kernel
theorem inX4 : ∀ w ∈ wsX40, w ∈ lw_tbl := by decide +kernel
theorem inX5 : ∀ w ∈ wsX50, w ∈ lw_tbl := by decide +kernel
theorem inX6 : ∀ w ∈ wsX60, w ∈ lw_tbl := by decide +kernel
theorem inX7 : ∀ w ∈ wsX70, w ∈ lw_tbl := by decide +kernel
theorem inX8 : ∀ w ∈ wsX80, w ∈ lw_tbl := by decide +kernel
theorem inX9 : ∀ w ∈ wsX90, w ∈ lw_tbl := by decide +kernel
theorem inX10 : ∀ w ∈ wsX100, w ∈ lw_tbl := by decide +kernel
theorem inX11 : ∀ w ∈ wsX110, w ∈ lw_tbl := by decide +kernel
end
section
/-! THE WALKER (my own): a weakest precondition over javac's instructions, for methods that make no cell. The cells have fixed places; a store gives what ints and longs they hold. -/
/-- what the cells hold: ints and longs, by place and number -/
abbrev vg_S : Type := (Nat → Nat → Int32) × (Nat → Nat → Int64)
/-- a cell's shape: an array (0 ints, 1 longs, from 2 on references; its length; the places it holds), or an object (its class, its fields: 0 int, 1 long, n + 2 the place n) -/
abbrev vg_C : Type := (Nat × Nat × List Nat) ⊕ (Nat × List Nat)
/-- the locals -/
abbrev vg_L : Type := List (Option Value)
/-- an instruction: pc, the instruction, its length, and four numbers that say what it links -/
abbrev vg_I : Type := Nat × Instr × Nat × Nat × Nat × Nat × Int
/-- a method: name, code, locals, answer's type, frames, words, kind of answer (0 none, 1 int, 2 long, 3 a place), places that it may answer, whether it is static; what it asks; what it gives -/
abbrev vg_R : Type := (MethodName × ByteArray × Nat × Option FieldType × Nat × Nat × Nat × List Nat × Bool) × (List Value → vg_S → Prop) × (List Value → vg_S → Option Value → vg_S → Prop)
def vg_nth {α : Type} : List α → Nat → Option α
  | [], _ => none
  | x :: _, 0 => some x
  | _ :: r, i + 1 => vg_nth r i
theorem vg_nth_eq {α : Type} : ∀ (l : List α) (i : Nat), vg_nth l i = l[i]?
  | [], i => by simp [vg_nth]
  | x :: r, 0 => by simp [vg_nth]
  | x :: r, i + 1 => by simp [vg_nth, vg_nth_eq r i]
def vg_w1 (σ : vg_S) (k : Nat) (f : Nat → Int32) : vg_S := (fun a => if a = k then f else σ.1 a, σ.2)
def vg_w2 (σ : vg_S) (k : Nat) (f : Nat → Int64) : vg_S := (σ.1, fun a => if a = k then f else σ.2 a)
def vg_u1 (σ : vg_S) (k i : Nat) (x : Int32) : vg_S := vg_w1 σ k (upd (σ.1 k) i x)
def vg_u2 (σ : vg_S) (k i : Nat) (x : Int64) : vg_S := vg_w2 σ k (vp_updL (σ.2 k) i x)
/-! locals -/
def vg_k : Option Value → Option Value
  | some (.long _) => none
  | some (.double _) => none
  | x => x
def vg_s1 : vg_L → Nat → Value → vg_L
  | [], _, _ => []
  | _ :: r, 0, v => some v :: r
  | x :: r, 1, v => vg_k x :: vg_s1 r 0 v
  | x :: r, i + 2, v => x :: vg_s1 r (i + 1) v
def vg_n0 : vg_L → vg_L
  | [] => []
  | _ :: r => none :: r
def vg_s2 : vg_L → Nat → Value → vg_L
  | [], _, _ => []
  | _ :: r, 0, v => some v :: vg_n0 r
  | x :: r, 1, v => vg_k x :: vg_s2 r 0 v
  | x :: r, i + 2, v => x :: vg_s2 r (i + 1) v
def vg_cat : List Value → Nat
  | [] => 0
  | v :: r => v.category + vg_cat r
/-- the last n of a stack, as arguments, in front of acc -/
def vg_args : Nat → List Value → List Value → List Value
  | 0, _, acc => acc
  | n + 1, v :: r, acc => vg_args n r (v :: acc)
  | _ + 1, [], acc => acc
def vg_drop : Nat → List Value → List Value
  | 0, r => r
  | n + 1, _ :: r => vg_drop n r
  | _ + 1, [] => []
/-- an index lies within -/
def vg_ix (i : Int32) (n : Nat) : Prop := 0 ≤ i.toInt ∧ i.toInt < (n : Int)
def vg_c0 (c : Jvm.ClassFile.Cond) (x : Int32) : Prop := match c with
  | .eq => x.toInt = 0
  | .ne => ¬ x.toInt = 0
  | .lt => x.toInt < 0
  | .ge => 0 ≤ x.toInt
  | .gt => 0 < x.toInt
  | .le => x.toInt ≤ 0
def vg_c2 (c : Jvm.ClassFile.Cond) (x y : Int32) : Prop := match c with
  | .eq => x.toInt = y.toInt
  | .ne => ¬ x.toInt = y.toInt
  | .lt => x.toInt < y.toInt
  | .ge => y.toInt ≤ x.toInt
  | .gt => y.toInt < x.toInt
  | .le => x.toInt ≤ y.toInt
/-- every place of a list that the index may name -/
def vg_al (f : Nat → Prop) (i : Int32) : Nat → List Nat → Prop
  | _, [] => True
  | j, k :: r => (i.toInt = (j : Int) → f k) ∧ vg_al f i (j + 1) r
def vg_any (f : Nat → Prop) : List Nat → Prop
  | [] => True
  | k :: r => f k ∧ vg_any f r
def vg_tb (f : Nat → Prop) (pc : Nat) (x : Int32) : Int → List Int → Prop
  | _, [] => True
  | lo, o :: r => (x.toInt = lo → f ((pc : Int) + o).toNat) ∧ vg_tb f pc x (lo + 1) r
def vg_lk (f : Nat → Prop) (pc : Nat) (x : Int32) (d : Int) : List (Int × Int) → Prop
  | [] => f ((pc : Int) + d).toNat
  | (a, o) :: r => (x.toInt = a → f ((pc : Int) + o).toNat) ∧ (¬ x.toInt = a → vg_lk f pc x d r)
/-- a call -/
def vg_call (r : vg_R) (as rest : List Value) (σ : vg_S) (K : List Value → vg_S → Prop) : Prop :=
  vg_cat rest ≤ 8 ∧ r.2.1 as σ ∧ (match r.1.2.2.2.2.2.2.1 with
  | 0 => ∀ σ', r.2.2 as σ none σ' → K rest σ'
  | 1 => ∀ (x : Int32) σ', r.2.2 as σ (some (.int x)) σ' → K (.int x :: rest) σ'
  | 2 => ∀ (x : Int64) σ', r.2.2 as σ (some (.long x)) σ' → K (.long x :: rest) σ'
  | _ => vg_any (fun k => ∀ σ', r.2.2 as σ (some (.ref k)) σ' → K (.ref k :: rest) σ') r.1.2.2.2.2.2.2.2.1)
def vg_jp (J : Nat → Prop) (pc : Nat) (off : Int) : Prop := J ((pc : Int) + off).toNat
/-- one instruction: K goes on behind it, J goes on at another pc, po is what the method owes at its end -/
def vg_ex (sh : List vg_C) (ro : Nat → Option (Nat × (Nat → Int32))) (cs : List vg_R) (po : Option Value → vg_S → Prop) (K : vg_L → List Value → vg_S → Prop) (J : vg_L → List Value → vg_S → Nat → Prop) (q : vg_I) (L : vg_L) (st : List Value) (σ : vg_S) : Prop := match q with
  | (pc, op, _, a, b, c, z) => match op with
    | .iconst i => K L (.int (Int32.ofInt i) :: st) σ
    | .bipush i => K L (.int (Int32.ofInt i) :: st) σ
    | .sipush i => K L (.int (Int32.ofInt i) :: st) σ
    | .lconst i => K L (.long (Int64.ofNat (i : Nat)) :: st) σ
    | .ldc _ => K L (.int (Int32.ofInt z) :: st) σ
    | .ldc_w _ => K L (.int (Int32.ofInt z) :: st) σ
    | .ldc2_w _ => K L (.long (Int64.ofInt z) :: st) σ
    | .iload_n i => (match vg_nth L i with
      | some (some (.int x)) => K L (.int x :: st) σ
      | _ => False)
    | .iload i => (match vg_nth L i with
      | some (some (.int x)) => K L (.int x :: st) σ
      | _ => False)
    | .lload_n i => (match vg_nth L i with
      | some (some (.long x)) => K L (.long x :: st) σ
      | _ => False)
    | .lload i => (match vg_nth L i with
      | some (some (.long x)) => K L (.long x :: st) σ
      | _ => False)
    | .aload_n i => (match vg_nth L i with
      | some (some (.ref x)) => K L (.ref x :: st) σ
      | _ => False)
    | .aload i => (match vg_nth L i with
      | some (some (.ref x)) => K L (.ref x :: st) σ
      | _ => False)
    | .istore_n i => (match vg_nth L i, st with
      | some _, .int x :: st => K (vg_s1 L i (.int x)) st σ
      | _, _ => False)
    | .istore i => (match vg_nth L i, st with
      | some _, .int x :: st => K (vg_s1 L i (.int x)) st σ
      | _, _ => False)
    | .astore_n i => (match vg_nth L i, st with
      | some _, .ref x :: st => K (vg_s1 L i (.ref x)) st σ
      | _, _ => False)
    | .astore i => (match vg_nth L i, st with
      | some _, .ref x :: st => K (vg_s1 L i (.ref x)) st σ
      | _, _ => False)
    | .lstore_n i => (match vg_nth L (i + 1), st with
      | some _, .long x :: st => K (vg_s2 L i (.long x)) st σ
      | _, _ => False)
    | .lstore i => (match vg_nth L (i + 1), st with
      | some _, .long x :: st => K (vg_s2 L i (.long x)) st σ
      | _, _ => False)
    | .iinc i n => (match vg_nth L i with
      | some (some (.int x)) => ∀ v, v = x + Int32.ofInt n → K (vg_s1 L i (.int v)) st σ
      | _ => False)
    | .iadd => (match st with
      | .int y :: .int x :: st => ∀ v, v = x + y → K L (.int v :: st) σ
      | _ => False)
    | .isub => (match st with
      | .int y :: .int x :: st => ∀ v, v = x - y → K L (.int v :: st) σ
      | _ => False)
    | .imul => (match st with
      | .int y :: .int x :: st => ∀ v, v = x * y → K L (.int v :: st) σ
      | _ => False)
    | .iand => (match st with
      | .int y :: .int x :: st => ∀ v, v = x &&& y → K L (.int v :: st) σ
      | _ => False)
    | .ior => (match st with
      | .int y :: .int x :: st => ∀ v, v = x ||| y → K L (.int v :: st) σ
      | _ => False)
    | .ixor => (match st with
      | .int y :: .int x :: st => ∀ v, v = x ^^^ y → K L (.int v :: st) σ
      | _ => False)
    | .ishl => (match st with
      | .int y :: .int x :: st => ∀ v, v = x <<< (y &&& 31) → K L (.int v :: st) σ
      | _ => False)
    | .ishr => (match st with
      | .int y :: .int x :: st => ∀ v, v = x >>> (y &&& 31) → K L (.int v :: st) σ
      | _ => False)
    | .iushr => (match st with
      | .int y :: .int x :: st => ∀ v, v = (x.toUInt32 >>> (y.toUInt32 &&& Int32.toUInt32 31)).toInt32 → K L (.int v :: st) σ
      | _ => False)
    | .ineg => (match st with
      | .int x :: st => ∀ v, v = -x → K L (.int v :: st) σ
      | _ => False)
    | .idiv => (match st with
      | .int y :: .int x :: st => ¬ y.toInt = 0 ∧ ∀ v, v = x / y → K L (.int v :: st) σ
      | _ => False)
    | .irem => (match st with
      | .int y :: .int x :: st => ¬ y.toInt = 0 ∧ ∀ v, v = x - x / y * y → K L (.int v :: st) σ
      | _ => False)
    | .ladd => (match st with
      | .long y :: .long x :: st => ∀ v, v = x + y → K L (.long v :: st) σ
      | _ => False)
    | .lsub => (match st with
      | .long y :: .long x :: st => ∀ v, v = x - y → K L (.long v :: st) σ
      | _ => False)
    | .lmul => (match st with
      | .long y :: .long x :: st => ∀ v, v = x * y → K L (.long v :: st) σ
      | _ => False)
    | .land => (match st with
      | .long y :: .long x :: st => ∀ v, v = x &&& y → K L (.long v :: st) σ
      | _ => False)
    | .lneg => (match st with
      | .long x :: st => ∀ v, v = -x → K L (.long v :: st) σ
      | _ => False)
    | .ldiv => (match st with
      | .long y :: .long x :: st => ¬ y.toInt = 0 ∧ ∀ v, v = x / y → K L (.long v :: st) σ
      | _ => False)
    | .lrem => (match st with
      | .long y :: .long x :: st => ¬ y.toInt = 0 ∧ ∀ v, v = x - x / y * y → K L (.long v :: st) σ
      | _ => False)
    | .lshl => (match st with
      | .int y :: .long x :: st => ∀ v, v = x <<< (y.toInt64 &&& 63) → K L (.long v :: st) σ
      | _ => False)
    | .lshr => (match st with
      | .int y :: .long x :: st => ∀ v, v = x >>> (y.toInt64 &&& 63) → K L (.long v :: st) σ
      | _ => False)
    | .lcmp => (match st with
      | .long y :: .long x :: st => ∀ v, v = lg_cmp x y → K L (.int v :: st) σ
      | _ => False)
    | .i2l => (match st with
      | .int x :: st => ∀ v, v = x.toInt64 → K L (.long v :: st) σ
      | _ => False)
    | .l2i => (match st with
      | .long x :: st => ∀ v, v = x.toInt32 → K L (.int v :: st) σ
      | _ => False)
    | .dup => (match st with
      | .int x :: st => K L (.int x :: .int x :: st) σ
      | .ref x :: st => K L (.ref x :: .ref x :: st) σ
      | _ => False)
    | .dup2 => (match st with
      | .int x :: .ref y :: st => K L (.int x :: .ref y :: .int x :: .ref y :: st) σ
      | .long x :: st => K L (.long x :: .long x :: st) σ
      | _ => False)
    | .pop => (match st with
      | .int _ :: st => K L st σ
      | _ => False)
    | .pop2 => (match st with
      | .long _ :: st => K L st σ
      | _ => False)
    | .goto off => vg_jp (J L st σ) pc off
    | .ifCond cd off => (match st with
      | .int x :: st => (vg_c0 cd x → vg_jp (J L st σ) pc off) ∧ (¬ vg_c0 cd x → K L st σ)
      | _ => False)
    | .if_icmp cd off => (match st with
      | .int y :: .int x :: st => (vg_c2 cd x y → vg_jp (J L st σ) pc off) ∧ (¬ vg_c2 cd x y → K L st σ)
      | _ => False)
    | .tableswitch d lo hi offs => (match st with
      | .int x :: st => (x.toInt < lo ∨ hi < x.toInt → vg_jp (J L st σ) pc d) ∧ vg_tb (J L st σ) pc x lo offs.toList
      | _ => False)
    | .lookupswitch d ps => (match st with
      | .int x :: st => vg_lk (J L st σ) pc x d ps.toList
      | _ => False)
    | .getfield _ => (match st with
      | .ref r :: st => (match vg_nth sh r with
        | some (.inr (ci, ks)) => (match Nat.beq ci b, vg_nth ks c with
          | true, some 0 => ∀ v, v = σ.1 r c → K L (.int v :: st) σ
          | true, some 1 => ∀ v, v = σ.2 r c → K L (.long v :: st) σ
          | true, some (n + 2) => K L (.ref n :: st) σ
          | _, _ => False)
        | _ => False)
      | _ => False)
    | .putfield _ => (match st with
      | .int x :: .ref r :: st => (match vg_nth sh r with
        | some (.inr (ci, ks)) => (match Nat.beq ci b, vg_nth ks c, z with
          | true, some 0, .ofNat 0 => ∀ σ', σ' = vg_u1 σ r c x → K L st σ'
          | true, some 0, .ofNat 1 => (x = 0 ∨ x = 1) ∧ ∀ σ', σ' = vg_u1 σ r c x → K L st σ'
          | _, _, _ => False)
        | _ => False)
      | .long x :: .ref r :: st => (match vg_nth sh r with
        | some (.inr (ci, ks)) => (match Nat.beq ci b, vg_nth ks c, z with
          | true, some 1, .ofNat 2 => ∀ σ', σ' = vg_u2 σ r c x → K L st σ'
          | _, _, _ => False)
        | _ => False)
      | _ => False)
    | .getstatic _ => (match ro a with
      | some _ => K L (.ref a :: st) σ
      | none => False)
    | .iaload => (match st with
      | .int i :: .ref r :: st => (match vg_nth sh r with
        | some (.inl (0, n, _)) => vg_ix i n ∧ ∀ v, v = σ.1 r i.toNatClampNeg → K L (.int v :: st) σ
        | none => (match ro r with
          | some (n, f) => vg_ix i n ∧ ∀ v, v = f i.toNatClampNeg → K L (.int v :: st) σ
          | none => False)
        | _ => False)
      | _ => False)
    | .laload => (match st with
      | .int i :: .ref r :: st => (match vg_nth sh r with
        | some (.inl (1, n, _)) => vg_ix i n ∧ ∀ v, v = σ.2 r i.toNatClampNeg → K L (.long v :: st) σ
        | _ => False)
      | _ => False)
    | .aaload => (match st with
      | .int i :: .ref r :: st => (match vg_nth sh r with
        | some (.inl (_ + 2, n, rs)) => Nat.ble n rs.length = true ∧ vg_ix i n ∧ vg_al (fun k => K L (.ref k :: st) σ) i 0 rs
        | _ => False)
      | _ => False)
    | .iastore => (match st with
      | .int x :: .int i :: .ref r :: st => (match vg_nth sh r with
        | some (.inl (0, n, _)) => vg_ix i n ∧ ∀ σ', σ' = vg_u1 σ r i.toNatClampNeg x → K L st σ'
        | _ => False)
      | _ => False)
    | .lastore => (match st with
      | .long x :: .int i :: .ref r :: st => (match vg_nth sh r with
        | some (.inl (1, n, _)) => vg_ix i n ∧ ∀ σ', σ' = vg_u2 σ r i.toNatClampNeg x → K L st σ'
        | _ => False)
      | _ => False)
    | .arraylength => (match st with
      | .ref r :: st => (match vg_nth sh r with
        | some (.inl (_, n, _)) => K L (.int (Int32.ofNat n) :: st) σ
        | none => (match ro r with
          | some (n, _) => K L (.int (Int32.ofNat n) :: st) σ
          | none => False)
        | _ => False)
      | _ => False)
    | .invokevirtual _ => (match vg_nth cs a, vg_drop c st with
      | some r, .ref o :: rest => (match vg_nth sh o with
        | some (.inr (ci, _)) => (match Nat.beq ci b, Nat.ble c st.length with
          | true, true => vg_call r (.ref o :: vg_args c st []) rest σ (fun st σ => K L st σ)
          | _, _ => False)
        | _ => False)
      | _, _ => False)
    | .invokestatic _ => (match b with
      | 3 => (match st with
        | .int n :: .int dp :: .ref kd :: .int sp :: .ref ks :: rest => (match vg_nth sh ks, vg_nth sh kd with
          | some (.inl (0, n0, _)), some (.inl (0, n1, _)) => vg_cat rest ≤ 8 ∧ 0 ≤ sp.toInt ∧ 0 ≤ dp.toInt ∧ 0 ≤ n.toInt ∧ sp.toInt + n.toInt ≤ (n0 : Int) ∧ dp.toInt + n.toInt ≤ (n1 : Int) ∧ ∀ σ', σ' = vg_w1 σ kd (va_cpy (σ.1 ks) (σ.1 kd) sp.toNatClampNeg dp.toNatClampNeg n.toNatClampNeg) → K L rest σ'
          | _, _ => False)
        | _ => False)
      | _ => (match vg_nth cs a, Nat.ble c st.length with
        | some r, true => vg_call r (vg_args c st []) (vg_drop c st) σ (fun st σ => K L st σ)
        | _, _ => False))
    | .ireturn => (match st, z with
      | [.int x], .ofNat 0 => po (some (.int x)) σ
      | [.int x], .ofNat 1 => (x = 0 ∨ x = 1) ∧ po (some (.int x)) σ
      | _, _ => False)
    | .lreturn => (match st with
      | [.long x] => po (some (.long x)) σ
      | _ => False)
    | .areturn => (match st with
      | [.ref k] => po (some (.ref k)) σ
      | _ => False)
    | .return_ => (match st with
      | [] => po none σ
      | _ => False)
    | _ => False
def vg_find : List vg_I → Nat → List vg_I
  | [], _ => []
  | q :: r, pc => match Nat.beq q.1 pc with
    | true => q :: r
    | false => vg_find r pc
/-- a cut: which locals are kept, what holds there, a measure -/
abbrev vg_V : Type := List Bool × (vg_L → vg_S → Prop) × (vg_L → vg_S → Nat)
def vg_mask : List Bool → vg_L → vg_L
  | _, [] => []
  | [], _ :: r => none :: vg_mask [] r
  | true :: b, x :: r => x :: vg_mask b r
  | false :: b, _ :: r => none :: vg_mask b r
def vg_lkp : List (Nat × vg_V) → Nat → Option vg_V
  | [], _ => none
  | q :: r, h => match Nat.beq q.1 h with
    | true => some q.2
    | false => vg_lkp r h
/-- the int in a local -/
def vg_li (L : vg_L) (i : Nat) : Int32 := match vg_nth L i with
  | some (some (.int x)) => x
  | _ => 0
def vg_bd (bd : Option Nat) (k : Nat) : Prop := match bd with
  | none => True
  | some m => k < m
/-- the walk: at a cut the cut's word is owed (and, with a bound, a lesser measure) -/
def vg (sh : List vg_C) (ro : Nat → Option (Nat × (Nat → Int32))) (cs : List vg_R) (po : Option Value → vg_S → Prop) (I : Nat → Option vg_V) (cd : List vg_I) (bd : Option Nat) : Nat → Bool → List vg_I → vg_L → List Value → vg_S → Prop
  | 0, _, _, _, _, _ => False
  | _ + 1, _, [], _, _, _ => False
  | n + 1, true, q :: nx, L, st, σ => vg_ex sh ro cs po (fun L st σ => vg sh ro cs po I cd bd n false nx L st σ) (fun L st σ t => vg sh ro cs po I cd bd n false (vg_find cd t) L st σ) q L st σ
  | n + 1, false, q :: nx, L, st, σ => match I q.1 with
    | none => vg_ex sh ro cs po (fun L st σ => vg sh ro cs po I cd bd n false nx L st σ) (fun L st σ t => vg sh ro cs po I cd bd n false (vg_find cd t) L st σ) q L st σ
    | some iv => st = [] ∧ iv.2.1 (vg_mask iv.1 L) σ ∧ vg_bd bd (iv.2.2 (vg_mask iv.1 L) σ)
end
section
/-! places and addresses, worlds, locals -/
/-- the classes' and slots' numbers, the array classes, the address of a place -/
abbrev vg_G : Type := va_G × (Nat → ClassId) × (Nat → Nat)
def vg_cv (ad : Nat → Nat) (v : Value) : Value := match v with
  | .ref k => .ref (ad k)
  | v => v
theorem vg_cv_cat (ad : Nat → Nat) (v : Value) : (vg_cv ad v).category = v.category := by cases v <;> rfl
theorem vg_cat_eq (ad : Nat → Nat) : ∀ st : List Value, ((st.map (vg_cv ad)).map fun v => v.category).sum = vg_cat st
  | [] => rfl
  | v :: r => by
    have h := vg_cat_eq ad r
    simp only [List.map_cons, List.sum_cons, vg_cat, vg_cv_cat] at h ⊢
    rw [h]
def vg_fv (ad : Nat → Nat) (f : Nat → Int32) (g : Nat → Int64) (kd i : Nat) : Value := match kd with
  | 0 => .int (f i)
  | 1 => .long (g i)
  | n + 2 => .ref (ad n)
def vg_fl (ad : Nat → Nat) (f : Nat → Int32) (g : Nat → Int64) : Nat → List Nat → List Value
  | _, [] => []
  | i, kd :: r => vg_fv ad f g kd i :: vg_fl ad f g (i + 1) r
theorem vg_fl_at (ad : Nat → Nat) (f : Nat → Int32) (g : Nat → Int64) : ∀ (ks : List Nat) (i j : Nat), (vg_fl ad f g i ks)[j]? = (ks[j]?).map (fun kd => vg_fv ad f g kd (i + j))
  | [], i, j => by simp [vg_fl]
  | kd :: r, i, 0 => by simp [vg_fl]
  | kd :: r, i, j + 1 => by
    simp only [vg_fl, List.getElem?_cons_succ]
    rw [vg_fl_at ad f g r (i + 1) j, Nat.add_assoc, Nat.add_comm 1 j]
theorem vg_fl_len (ad : Nat → Nat) (f : Nat → Int32) (g : Nat → Int64) : ∀ (ks : List Nat) (i : Nat), (vg_fl ad f g i ks).length = ks.length
  | [], i => rfl
  | kd :: r, i => by simp [vg_fl, vg_fl_len ad f g r (i + 1)]
theorem vg_fl_set1 (ad : Nat → Nat) (f : Nat → Int32) (g : Nat → Int64) (ks : List Nat) (i : Nat) (x : Int32) (h : ks[i]? = some 0) : (vg_fl ad f g 0 ks).set i (.int x) = vg_fl ad (upd f i x) g 0 ks := by
  apply List.ext_getElem?
  intro j
  rw [List.getElem?_set, vg_fl_at, vg_fl_at]
  by_cases hj : i = j
  · subst hj
    have hlt : i < (vg_fl ad f g 0 ks).length := by rw [vg_fl_len]; exact (List.getElem?_eq_some_iff.mp h).1
    rw [if_pos rfl, if_pos hlt, h]
    simp [vg_fv, upd]
  · rw [if_neg hj]
    cases hk : ks[j]? with
    | none => rfl
    | some kd =>
      match kd with
      | 0 => simp [vg_fv, upd, Ne.symm hj]
      | 1 => rfl
      | n + 2 => rfl
theorem vg_fl_set2 (ad : Nat → Nat) (f : Nat → Int32) (g : Nat → Int64) (ks : List Nat) (i : Nat) (x : Int64) (h : ks[i]? = some 1) : (vg_fl ad f g 0 ks).set i (.long x) = vg_fl ad f (vp_updL g i x) 0 ks := by
  apply List.ext_getElem?
  intro j
  rw [List.getElem?_set, vg_fl_at, vg_fl_at]
  by_cases hj : i = j
  · subst hj
    have hlt : i < (vg_fl ad f g 0 ks).length := by rw [vg_fl_len]; exact (List.getElem?_eq_some_iff.mp h).1
    rw [if_pos rfl, if_pos hlt, h]
    simp [vg_fv, vp_updL]
  · rw [if_neg hj]
    cases hk : ks[j]? with
    | none => rfl
    | some kd =>
      match kd with
      | 0 => rfl
      | 1 => simp [vg_fv, vp_updL, Ne.symm hj]
      | n + 2 => rfl
def vg_ce (dA : Nat → ClassId) (ad : Nat → Nat) (f : Nat → Int32) (g : Nat → Int64) (c : vg_C) : va_E := match c with
  | .inl (0, n, _) => .inl (dA 0, n, .inl f)
  | .inl (1, n, _) => .inl (dA 1, n, .inr (.inl g))
  | .inl (t + 2, n, rs) => .inl (dA (t + 2), n, .inr (.inr (.inr (.inr (fun j => (rs[j]?).map ad)))))
  | .inr (ci, ks) => .inr (ci, vg_fl ad f g 0 ks)
def vg_cw (dA : Nat → ClassId) (ad : Nat → Nat) (σ : vg_S) : Nat → List vg_C → va_W
  | _, [] => []
  | k, c :: r => (ad k, vg_ce dA ad (σ.1 k) (σ.2 k) c) :: vg_cw dA ad σ (k + 1) r
theorem vg_cw_at (dA : Nat → ClassId) (ad : Nat → Nat) (σ : vg_S) : ∀ (cs : List vg_C) (i j : Nat), (vg_cw dA ad σ i cs)[j]? = (cs[j]?).map (fun c => (ad (i + j), vg_ce dA ad (σ.1 (i + j)) (σ.2 (i + j)) c))
  | [], i, j => by simp [vg_cw]
  | c :: r, i, 0 => by simp [vg_cw]
  | c :: r, i, j + 1 => by
    simp only [vg_cw, List.getElem?_cons_succ]
    rw [vg_cw_at dA ad σ r (i + 1) j, Nat.add_assoc, Nat.add_comm 1 j]
theorem vg_cw_len (dA : Nat → ClassId) (ad : Nat → Nat) (σ : vg_S) : ∀ (cs : List vg_C) (i : Nat), (vg_cw dA ad σ i cs).length = cs.length
  | [], i => rfl
  | c :: r, i => by simp [vg_cw, vg_cw_len dA ad σ r (i + 1)]
theorem vg_cw_set1 (dA : Nat → ClassId) (ad : Nat → Nat) (σ : vg_S) (cs : List vg_C) (k : Nat) (c : vg_C) (f : Nat → Int32) (h : cs[k]? = some c) : (vg_cw dA ad σ 0 cs).set k (ad k, vg_ce dA ad f (σ.2 k) c) = vg_cw dA ad (vg_w1 σ k f) 0 cs := by
  apply List.ext_getElem?
  intro j
  rw [List.getElem?_set, vg_cw_at, vg_cw_at]
  by_cases hj : k = j
  · subst hj
    have hlt : k < (vg_cw dA ad σ 0 cs).length := by rw [vg_cw_len]; exact (List.getElem?_eq_some_iff.mp h).1
    rw [if_pos rfl, if_pos hlt, h]
    simp [vg_w1]
  · rw [if_neg hj]
    simp [vg_w1, Ne.symm hj]
theorem vg_cw_set2 (dA : Nat → ClassId) (ad : Nat → Nat) (σ : vg_S) (cs : List vg_C) (k : Nat) (c : vg_C) (g : Nat → Int64) (h : cs[k]? = some c) : (vg_cw dA ad σ 0 cs).set k (ad k, vg_ce dA ad (σ.1 k) g c) = vg_cw dA ad (vg_w2 σ k g) 0 cs := by
  apply List.ext_getElem?
  intro j
  rw [List.getElem?_set, vg_cw_at, vg_cw_at]
  by_cases hj : k = j
  · subst hj
    have hlt : k < (vg_cw dA ad σ 0 cs).length := by rw [vg_cw_len]; exact (List.getElem?_eq_some_iff.mp h).1
    rw [if_pos rfl, if_pos hlt, h]
    simp [vg_w2]
  · rw [if_neg hj]
    simp [vg_w2, Ne.symm hj]
/-- the cells of the places -/
def vg_A (ad : Nat → Nat) (n : Nat) : Nat → Prop := fun q => ∃ k, k < n ∧ q = ad k
theorem vg_cw_D (dA : Nat → ClassId) (ad : Nat → Nat) (σ : vg_S) (cs : List vg_C) (hap : ∀ i j, i < cs.length → j < cs.length → ad i = ad j → i = j) : va_D (vg_A ad cs.length) (vg_cw dA ad σ 0 cs) := by
  refine ⟨fun i j x y hx hy hxy => ?_, fun k q hk => ?_⟩
  · rw [vg_cw_at] at hx hy
    cases hi : cs[i]? with
    | none => rw [hi] at hx; cases hx
    | some ci =>
      cases hj : cs[j]? with
      | none => rw [hj] at hy; cases hy
      | some cj =>
        rw [hi] at hx
        rw [hj] at hy
        cases hx
        cases hy
        simp only [Nat.zero_add] at hxy
        exact hap i j (List.getElem?_eq_some_iff.mp hi).1 (List.getElem?_eq_some_iff.mp hj).1 hxy
  · rw [vg_cw_at] at hk
    cases hi : cs[k]? with
    | none => rw [hi] at hk; cases hk
    | some ci =>
      rw [hi] at hk
      cases hk
      exact ⟨k, (List.getElem?_eq_some_iff.mp hi).1, by simp⟩
/-! locals -/
def vg_la (ad : Nat → Nat) : Nat → vg_L → List (Nat × Value)
  | _, [] => []
  | i, none :: r => vg_la ad (i + 1) r
  | i, some v :: r => (i, vg_cv ad v) :: vg_la ad (i + 1) r
theorem vg_la_in (ad : Nat → Nat) : ∀ (L : vg_L) (i k : Nat) (v : Value), vg_nth L k = some (some v) → (i + k, vg_cv ad v) ∈ vg_la ad i L
  | [], i, k, v, h => by simp [vg_nth] at h
  | none :: r, i, 0, v, h => by simp [vg_nth] at h
  | some w :: r, i, 0, v, h => by
    simp only [vg_nth, Option.some.injEq] at h
    subst h
    exact List.mem_cons_self
  | none :: r, i, k + 1, v, h => by
    have h2 := vg_la_in ad r (i + 1) k v h
    rw [Nat.add_assoc, Nat.add_comm 1 k] at h2
    exact h2
  | some w :: r, i, k + 1, v, h => by
    have h2 := vg_la_in ad r (i + 1) k v h
    rw [Nat.add_assoc, Nat.add_comm 1 k] at h2
    exact List.mem_cons_of_mem _ h2
theorem vg_la_of (ad : Nat → Nat) : ∀ (L : vg_L) (i : Nat) (q : Nat × Value), q ∈ vg_la ad i L → ∃ (k : Nat) (v : Value), q = (i + k, vg_cv ad v) ∧ vg_nth L k = some (some v)
  | [], i, q, h => by cases h
  | none :: r, i, q, h => by
    obtain ⟨k, v, h1, h2⟩ := vg_la_of ad r (i + 1) q h
    exact ⟨k + 1, v, by rw [h1, Nat.add_assoc, Nat.add_comm 1 k], h2⟩
  | some w :: r, i, q, h => by
    rcases List.mem_cons.mp h with h | h
    · exact ⟨0, w, h, rfl⟩
    · obtain ⟨k, v, h1, h2⟩ := vg_la_of ad r (i + 1) q h
      exact ⟨k + 1, v, by rw [h1, Nat.add_assoc, Nat.add_comm 1 k], h2⟩
def vg_lr (ad : Nat → Nat) (ls : Array Slot) (nL : Nat) (L : vg_L) : Prop := lv_has ls nL (vg_la ad 0 L) ∧ L.length = nL
theorem vg_lr.at {ad : Nat → Nat} {ls : Array Slot} {nL : Nat} {L : vg_L} (h : vg_lr ad ls nL L) {k : Nat} {v : Value} (hk : vg_nth L k = some (some v)) : ls[k]? = some (.val (vg_cv ad v)) := by
  have h2 := h.1.2.2 _ (vg_la_in ad L 0 k v hk)
  simpa using h2
theorem vg_nth_lt {α : Type} {L : List α} {k : Nat} {x : α} (h : vg_nth L k = some x) : k < L.length := by
  rw [vg_nth_eq] at h
  exact (List.getElem?_eq_some_iff.mp h).1
theorem vg_s1_len : ∀ (L : vg_L) (i : Nat) (v : Value), (vg_s1 L i v).length = L.length
  | [], i, v => by simp [vg_s1]
  | x :: r, 0, v => by simp [vg_s1]
  | x :: r, 1, v => by simp [vg_s1, vg_s1_len r 0 v]
  | x :: r, i + 2, v => by simp [vg_s1, vg_s1_len r (i + 1) v]
theorem vg_k_some {x : Option Value} {w : Value} (h : vg_k x = some w) : x = some w ∧ ¬ w.category = 2 := by
  cases x with
  | none => simp [vg_k] at h
  | some y => cases y <;> simp [vg_k] at h <;> subst h <;> exact ⟨rfl, by simp [Value.category]⟩
theorem vg_s1_nth : ∀ (L : vg_L) (i : Nat) (v : Value) (k : Nat) (w : Value), vg_nth (vg_s1 L i v) k = some (some w) → (k = i ∧ w = v) ∨ (k ≠ i ∧ vg_nth L k = some (some w) ∧ ¬ (k + 1 = i ∧ w.category = 2))
  | [], i, v, k, w, h => by simp [vg_s1, vg_nth] at h
  | x :: r, 0, v, 0, w, h => by
    simp only [vg_s1, vg_nth, Option.some.injEq] at h
    exact Or.inl ⟨rfl, h.symm⟩
  | x :: r, 0, v, k + 1, w, h => Or.inr ⟨by omega, h, by omega⟩
  | x :: r, 1, v, 0, w, h => by
    simp only [vg_s1, vg_nth, Option.some.injEq] at h
    obtain ⟨h1, h2⟩ := vg_k_some h
    exact Or.inr ⟨by omega, by simp [vg_nth, h1], fun q => h2 q.2⟩
  | x :: r, 1, v, k + 1, w, h => by
    rcases vg_s1_nth r 0 v k w h with ⟨h1, h2⟩ | ⟨h1, h2, h3⟩
    · exact Or.inl ⟨by omega, h2⟩
    · exact Or.inr ⟨by omega, h2, by omega⟩
  | x :: r, i + 2, v, 0, w, h => Or.inr ⟨by omega, h, by omega⟩
  | x :: r, i + 2, v, k + 1, w, h => by
    rcases vg_s1_nth r (i + 1) v k w h with ⟨h1, h2⟩ | ⟨h1, h2, h3⟩
    · exact Or.inl ⟨by omega, h2⟩
    · exact Or.inr ⟨by omega, h2, fun q => h3 ⟨by omega, q.2⟩⟩
theorem vg_lr.s1 {ad : Nat → Nat} {ls ls' : Array Slot} {nL : Nat} {L : vg_L} (h : vg_lr ad ls nL L) {i : Nat} {v : Value} (h' : lv_has ls' nL ((i, vg_cv ad v) :: (vg_la ad 0 L).filter (fun q => !(q.1 == i) && !(q.1 + 1 == i && q.2.category == 2)))) : vg_lr ad ls' nL (vg_s1 L i v) := by
  refine ⟨⟨h'.1, h'.2.1, fun q hq => h'.2.2 q ?_⟩, by rw [vg_s1_len]; exact h.2⟩
  obtain ⟨k, w, rfl, hk⟩ := vg_la_of ad _ _ _ hq
  rw [Nat.zero_add]
  rcases vg_s1_nth L i v k w hk with ⟨rfl, rfl⟩ | ⟨h1, h2, h3⟩
  · exact List.mem_cons_self
  · refine List.mem_cons_of_mem _ (List.mem_filter.mpr ⟨by simpa using vg_la_in ad L 0 k w h2, ?_⟩)
    simp only [vg_cv_cat, Bool.and_eq_true, Bool.not_eq_true', Bool.and_eq_false_iff, beq_eq_false_iff_ne, ne_eq]
    refine ⟨h1, ?_⟩
    by_cases hk1 : k + 1 = i
    · exact Or.inr (fun q => h3 ⟨hk1, q⟩)
    · exact Or.inl hk1
theorem vg_s2_nth : ∀ (L : vg_L) (i : Nat) (v : Value) (k : Nat) (w : Value), vg_nth (vg_s2 L i v) k = some (some w) → (k = i ∧ w = v) ∨ (k ≠ i ∧ k ≠ i + 1 ∧ vg_nth L k = some (some w) ∧ ¬ (k + 1 = i ∧ w.category = 2))
  | [], i, v, k, w, h => by simp [vg_s2, vg_nth] at h
  | x :: r, 0, v, 0, w, h => by
    simp only [vg_s2, vg_nth, Option.some.injEq] at h
    exact Or.inl ⟨rfl, h.symm⟩
  | [x], 0, v, k + 1, w, h => by simp [vg_s2, vg_n0, vg_nth] at h
  | x :: y :: r, 0, v, 1, w, h => by simp [vg_s2, vg_n0, vg_nth] at h
  | x :: y :: r, 0, v, k + 2, w, h => Or.inr ⟨by omega, by omega, h, by omega⟩
  | x :: r, 1, v, 0, w, h => by
    simp only [vg_s2, vg_nth, Option.some.injEq] at h
    obtain ⟨h1, h2⟩ := vg_k_some h
    exact Or.inr ⟨by omega, by omega, by simp [vg_nth, h1], fun q => h2 q.2⟩
  | x :: r, 1, v, k + 1, w, h => by
    rcases vg_s2_nth r 0 v k w h with ⟨h1, h2⟩ | ⟨h1, h0, h2, h3⟩
    · exact Or.inl ⟨by omega, h2⟩
    · exact Or.inr ⟨by omega, by omega, h2, by omega⟩
  | x :: r, i + 2, v, 0, w, h => Or.inr ⟨by omega, by omega, h, by omega⟩
  | x :: r, i + 2, v, k + 1, w, h => by
    rcases vg_s2_nth r (i + 1) v k w h with ⟨h1, h2⟩ | ⟨h1, h0, h2, h3⟩
    · exact Or.inl ⟨by omega, h2⟩
    · exact Or.inr ⟨by omega, by omega, h2, fun q => h3 ⟨by omega, q.2⟩⟩
theorem vg_s2_len : ∀ (L : vg_L) (i : Nat) (v : Value), i + 1 < L.length → (vg_s2 L i v).length = L.length
  | [], i, v, h => by simp at h
  | [x], i, v, h => by simp at h
  | x :: y :: r, 0, v, h => by simp [vg_s2, vg_n0]
  | x :: r, 1, v, h => by
    have := vg_s2_len r 0 v (by simp at h; omega)
    simp [vg_s2, this]
  | x :: r, i + 2, v, h => by
    have := vg_s2_len r (i + 1) v (by simp at h; omega)
    simp [vg_s2, this]
theorem vg_lr.s2 {ad : Nat → Nat} {ls ls' : Array Slot} {nL : Nat} {L : vg_L} (h : vg_lr ad ls nL L) {i : Nat} {v : Value} (hi : i + 1 < L.length) (h' : lv_has ls' nL ((i, vg_cv ad v) :: (vg_la ad 0 L).filter (fun q => !(q.1 == i) && (!(q.1 == i + 1) && !(q.1 + 1 == i && q.2.category == 2))))) : vg_lr ad ls' nL (vg_s2 L i v) := by
  refine ⟨⟨h'.1, h'.2.1, fun q hq => h'.2.2 q ?_⟩, by rw [vg_s2_len _ _ _ hi]; exact h.2⟩
  obtain ⟨k, w, rfl, hk⟩ := vg_la_of ad _ _ _ hq
  rw [Nat.zero_add]
  rcases vg_s2_nth L i v k w hk with ⟨rfl, rfl⟩ | ⟨h1, h0, h2, h3⟩
  · exact List.mem_cons_self
  · refine List.mem_cons_of_mem _ (List.mem_filter.mpr ⟨by simpa using vg_la_in ad L 0 k w h2, ?_⟩)
    simp only [vg_cv_cat, Bool.and_eq_true, Bool.not_eq_true', Bool.and_eq_false_iff, beq_eq_false_iff_ne, ne_eq]
    refine ⟨h1, h0, ?_⟩
    by_cases hk1 : k + 1 = i
    · exact Or.inr (fun q => h3 ⟨hk1, q⟩)
    · exact Or.inl hk1
/-! arguments -/
theorem vg_args_eq : ∀ (n : Nat) (st acc : List Value), n ≤ st.length → vg_args n st acc = (st.take n).reverse ++ acc
  | 0, st, acc, _ => by simp [vg_args]
  | n + 1, [], acc, h => by simp at h
  | n + 1, v :: r, acc, h => by
    rw [vg_args, vg_args_eq n r (v :: acc) (by simp at h; omega)]
    simp
theorem vg_drop_eq : ∀ (n : Nat) (st : List Value), vg_drop n st = st.drop n
  | 0, st => by simp [vg_drop]
  | n + 1, [] => by simp [vg_drop]
  | n + 1, v :: r => by simp [vg_drop, vg_drop_eq n r]
theorem vg_stack (ad : Nat → Nat) (n : Nat) (st : List Value) (h : n ≤ st.length) : st.map (vg_cv ad) = ((vg_args n st []).map (vg_cv ad)).reverse ++ (vg_drop n st).map (vg_cv ad) := by
  rw [vg_args_eq n st [] h, vg_drop_eq, List.append_nil, List.map_reverse, List.reverse_reverse, ← List.map_append, List.take_append_drop]
theorem vg_args_len (n : Nat) (st : List Value) (h : n ≤ st.length) : (vg_args n st []).length = n := by
  rw [vg_args_eq n st [] h]
  simp
  omega
theorem vg_ix.in {i : Int32} {n : Nat} (h : vg_ix i n) : vp_in i n := by
  intro q
  obtain ⟨h1, h2⟩ := h
  rcases q with q | q
  · have := Int32.lt_iff_toInt_lt.mp q
    simp at this
    omega
  · have : i.toNatClampNeg = i.toInt.toNat := rfl
    omega
/-- the locals at a method's entry -/
def vg_l0 : List Value → vg_L
  | [] => []
  | .long x :: r => some (.long x) :: none :: vg_l0 r
  | .double x :: r => some (.double x) :: none :: vg_l0 r
  | v :: r => some v :: vg_l0 r
def vg_pad : Nat → vg_L → vg_L
  | 0, _ => []
  | n + 1, [] => none :: vg_pad n []
  | n + 1, x :: r => x :: vg_pad n r
theorem vg_pad_len : ∀ (n : Nat) (L : vg_L), (vg_pad n L).length = n
  | 0, L => by cases L <;> rfl
  | n + 1, [] => by simp [vg_pad, vg_pad_len n []]
  | n + 1, x :: r => by simp [vg_pad, vg_pad_len n r]
theorem vg_pad_nil_nth : ∀ (n k : Nat) (v : Value), vg_nth (vg_pad n []) k = some (some v) → False
  | 0, k, v, h => by simp [vg_pad, vg_nth] at h
  | n + 1, 0, v, h => by simp [vg_pad, vg_nth] at h
  | n + 1, k + 1, v, h => vg_pad_nil_nth n k v h
theorem vg_pad_nth : ∀ (n : Nat) (L : vg_L) (k : Nat) (v : Value), vg_nth (vg_pad n L) k = some (some v) → vg_nth L k = some (some v)
  | 0, L, k, v, h => by cases L <;> simp [vg_pad, vg_nth] at h
  | n + 1, [], k, v, h => (vg_pad_nil_nth (n + 1) k v h).elim
  | n + 1, x :: r, 0, v, h => h
  | n + 1, x :: r, k + 1, v, h => vg_pad_nth n r k v h
theorem vg_l0_in (ad : Nat → Nat) : ∀ (as : List Value) (i k : Nat) (v : Value), vg_nth (vg_l0 as) k = some (some v) → (i + k, vg_cv ad v) ∈ lv_args i (as.map (vg_cv ad)) := by
  intro as
  induction as with
  | nil => intro i k v h; simp [vg_l0, vg_nth] at h
  | cons a r ih =>
    intro i k v h
    have one : ∀ b : Value, b.category = 1 → vg_nth (some b :: vg_l0 r) k = some (some v) → (i + k, vg_cv ad v) ∈ lv_args i ((b :: r).map (vg_cv ad)) := by
      intro b hb hk
      simp only [List.map_cons, lv_args, vg_cv_cat, hb]
      match k, hk with
      | 0, hk =>
        simp only [vg_nth, Option.some.injEq] at hk
        subst hk
        exact List.mem_cons_self
      | k + 1, hk =>
        have := ih (i + 1) k v hk
        rw [Nat.add_assoc, Nat.add_comm 1 k] at this
        exact List.mem_cons_of_mem _ this
    have two : ∀ b : Value, b.category = 2 → vg_nth (some b :: none :: vg_l0 r) k = some (some v) → (i + k, vg_cv ad v) ∈ lv_args i ((b :: r).map (vg_cv ad)) := by
      intro b hb hk
      simp only [List.map_cons, lv_args, vg_cv_cat, hb]
      match k, hk with
      | 0, hk =>
        simp only [vg_nth, Option.some.injEq] at hk
        subst hk
        exact List.mem_cons_self
      | 1, hk => simp [vg_nth] at hk
      | k + 2, hk =>
        have := ih (i + 2) k v hk
        rw [Nat.add_assoc, Nat.add_comm 2 k] at this
        exact List.mem_cons_of_mem _ this
    cases a with
    | int x => exact one _ rfl h
    | long x => exact two _ rfl h
    | float x => exact one _ rfl h
    | double x => exact two _ rfl h
    | null => exact one _ rfl h
    | ref x => exact one _ rfl h
    | retAddr x => exact one _ rfl h
theorem vg_entry (ad : Nat → Nat) (as : List Value) (n : Nat) (h : (lg_sl (as.map (vg_cv ad))).length ≤ n) : vg_lr ad ((lg_sl (as.map (vg_cv ad)) ++ List.replicate (n - (lg_sl (as.map (vg_cv ad))).length) Slot.unset).toArray) n (vg_pad n (vg_l0 as)) := by
  have h1 := lv_entry (as.map (vg_cv ad)) (n := n) h
  refine ⟨⟨h1.1, h1.2.1, fun q hq => h1.2.2 q ?_⟩, vg_pad_len _ _⟩
  obtain ⟨k, v, rfl, hk⟩ := vg_la_of ad _ _ _ hq
  exact vg_l0_in ad as 0 k v (vg_pad_nth _ _ _ _ hk)
theorem vg_mask_nth : ∀ (ms : List Bool) (L : vg_L) (k : Nat) (v : Value), vg_nth (vg_mask ms L) k = some (some v) → vg_nth L k = some (some v)
  | ms, [], k, v, h => by cases ms <;> simp [vg_mask, vg_nth] at h
  | [], x :: r, 0, v, h => by simp [vg_mask, vg_nth] at h
  | true :: b, x :: r, 0, v, h => h
  | false :: b, x :: r, 0, v, h => by simp [vg_mask, vg_nth] at h
  | [], x :: r, k + 1, v, h => vg_mask_nth [] r k v h
  | true :: b, x :: r, k + 1, v, h => vg_mask_nth b r k v h
  | false :: b, x :: r, k + 1, v, h => vg_mask_nth b r k v h
theorem vg_mask_len : ∀ (ms : List Bool) (L : vg_L), (vg_mask ms L).length = L.length
  | ms, [] => by cases ms <;> simp [vg_mask]
  | [], x :: r => by simp [vg_mask, vg_mask_len [] r]
  | true :: b, x :: r => by simp [vg_mask, vg_mask_len b r]
  | false :: b, x :: r => by simp [vg_mask, vg_mask_len b r]
theorem vg_lr.mask {ad : Nat → Nat} {ls : Array Slot} {nL : Nat} {L : vg_L} (h : vg_lr ad ls nL L) (ms : List Bool) : vg_lr ad ls nL (vg_mask ms L) := by
  refine ⟨⟨h.1.1, h.1.2.1, fun q hq => h.1.2.2 q ?_⟩, by rw [vg_mask_len]; exact h.2⟩
  obtain ⟨k, w, rfl, hk⟩ := vg_la_of ad _ _ _ hq
  exact vg_la_in ad L 0 k w (vg_mask_nth ms L k w hk)
theorem vg_lkp_in : ∀ (l : List (Nat × vg_V)) (h : Nat) (iv : vg_V), vg_lkp l h = some iv → (h, iv) ∈ l
  | [], h, iv, e => by cases e
  | q :: r, h, iv, e => by
    unfold vg_lkp at e
    split at e
    · rename_i hb
      cases e
      have := Nat.eq_of_beq_eq_true hb
      subst this
      exact List.mem_cons_self
    · exact List.mem_cons_of_mem _ (vg_lkp_in r h iv e)
end
section

/-! THE WALKER IS SOUND -/
theorem vg_b_if_eq {x : Int32} : (x = 0) ↔ vg_c0 .eq x := by
  simp only [vg_c0, Int32.lt_iff_toInt_lt, Int32.le_iff_toInt_le, ← Int32.toInt_inj]
  simp
theorem vg_b_if_ne {x : Int32} : (¬ x = 0) ↔ vg_c0 .ne x := by
  simp only [vg_c0, Int32.lt_iff_toInt_lt, Int32.le_iff_toInt_le, ← Int32.toInt_inj]
  simp
theorem vg_b_if_lt {x : Int32} : (x < 0) ↔ vg_c0 .lt x := by
  simp only [vg_c0, Int32.lt_iff_toInt_lt, Int32.le_iff_toInt_le, ← Int32.toInt_inj]
  simp
theorem vg_b_if_ge {x : Int32} : (0 ≤ x) ↔ vg_c0 .ge x := by
  simp only [vg_c0, Int32.lt_iff_toInt_lt, Int32.le_iff_toInt_le, ← Int32.toInt_inj]
  simp
theorem vg_b_if_gt {x : Int32} : (0 < x) ↔ vg_c0 .gt x := by
  simp only [vg_c0, Int32.lt_iff_toInt_lt, Int32.le_iff_toInt_le, ← Int32.toInt_inj]
  simp
theorem vg_b_if_le {x : Int32} : (x ≤ 0) ↔ vg_c0 .le x := by
  simp only [vg_c0, Int32.lt_iff_toInt_lt, Int32.le_iff_toInt_le, ← Int32.toInt_inj]
  simp
theorem vg_b_icmp_eq {x y : Int32} : (x = y) ↔ vg_c2 .eq x y := by
  simp only [vg_c2, Int32.lt_iff_toInt_lt, Int32.le_iff_toInt_le, ← Int32.toInt_inj]
theorem vg_b_icmp_ne {x y : Int32} : (¬ x = y) ↔ vg_c2 .ne x y := by
  simp only [vg_c2, Int32.lt_iff_toInt_lt, Int32.le_iff_toInt_le, ← Int32.toInt_inj]
theorem vg_b_icmp_lt {x y : Int32} : (x < y) ↔ vg_c2 .lt x y := by
  simp only [vg_c2, Int32.lt_iff_toInt_lt, Int32.le_iff_toInt_le, ← Int32.toInt_inj]
theorem vg_b_icmp_ge {x y : Int32} : (y ≤ x) ↔ vg_c2 .ge x y := by
  simp only [vg_c2, Int32.lt_iff_toInt_lt, Int32.le_iff_toInt_le, ← Int32.toInt_inj]
theorem vg_b_icmp_gt {x y : Int32} : (y < x) ↔ vg_c2 .gt x y := by
  simp only [vg_c2, Int32.lt_iff_toInt_lt, Int32.le_iff_toInt_le, ← Int32.toInt_inj]
theorem vg_b_icmp_le {x y : Int32} : (x ≤ y) ↔ vg_c2 .le x y := by
  simp only [vg_c2, Int32.lt_iff_toInt_lt, Int32.le_iff_toInt_le, ← Int32.toInt_inj]
def vg_GW : List Cond := lw_tbl.filter goodWord
def vg_wd (i : Nat) (w : Cond) : Bool := decide (vg_nth lw_tbl i = some w) && goodWord w
theorem vg_wd_in {i : Nat} {w : Cond} (h : vg_wd i w = true) : w ∈ vg_GW := by
  simp only [vg_wd, Bool.and_eq_true, decide_eq_true_eq, vg_nth_eq] at h
  exact List.mem_filter.mpr ⟨List.mem_of_getElem? h.1, h.2⟩
theorem vg_GW_good : GoodIn vg_GW vg_GW := fun w h => ⟨h, good_of_word (List.mem_filter.mp h).2⟩
/-- links to a nest mate's private methods -/
def vg_nest : List Cond := [.methodLinkNest "NoiseShaper$Taps" 13 yX10_within "NoiseShaper", .methodLinkNest "NoiseShaper$Source" 23 yX10_putTo "NoiseShaper", .methodLinkNest "NoiseShaper$Loop" 149 yX10_putTo "NoiseShaper", .methodLinkNest "NoiseShaper$Elements" 103 yX10_putTo "NoiseShaper"]
def vg_stat : List (Nat × String) := [(100, "SHORT"), (101, "MIDDLE"), (102, "LONG")]
/-- the static rows of taps -/
def vg_ro0 (k : Nat) : Option (Nat × (Nat → Int32)) := match k with
  | 100 => some (3, fun j => ([1, 2, 1] : List Int32).getD j 0)
  | 101 => some (7, fun j => ([-1, 0, 9, 16, 9, 0, -1] : List Int32).getD j 0)
  | 102 => some (11, fun j => ([3, 0, -25, 0, 150, 256, 150, 0, -25, 0, 3] : List Int32).getD j 0)
  | _ => none
def vg_len (op : Instr) (n : Nat) : Nat := match op with
  | .bipush _ => 2
  | .sipush _ => 3
  | .ldc _ => 2
  | .ldc_w _ => 3
  | .ldc2_w _ => 3
  | .iload _ => 2
  | .lload _ => 2
  | .aload _ => 2
  | .istore _ => 2
  | .lstore _ => 2
  | .astore _ => 2
  | .iinc _ _ => 3
  | .goto _ => 3
  | .ifCond _ _ => 3
  | .if_icmp _ _ => 3
  | .getfield _ => 3
  | .putfield _ => 3
  | .getstatic _ => 3
  | .invokevirtual _ => 3
  | .invokestatic _ => 3
  | .tableswitch _ _ _ _ => n
  | .lookupswitch _ _ => n
  | _ => 1
def vg_zt (z : Int) : FieldType := match z with
  | .ofNat 0 => .int
  | .ofNat 1 => .boolean
  | _ => .long
/-- what an instruction links is in the tables -/
def vg_lks (own : String) (cs : List vg_R) (rt : Option FieldType) (cp : Bool) (op : Instr) (a b c : Nat) (z : Int) : Bool := match op with
  | .bipush n => decide ((Int8.ofInt n).toInt32 = Int32.ofInt n)
  | .sipush n => decide ((Int16.ofInt n).toInt32 = Int32.ofInt n)
  | .ldc i => vg_wd a (.constant own i (Int32.ofInt z))
  | .ldc_w i => vg_wd a (.constant own i (Int32.ofInt z))
  | .ldc2_w i => vg_wd a (.constantLong own i (Int64.ofInt z))
  | .getfield i => (match vg_nth vwCl b with
    | some q => Nat.blt c q.2.2 && vg_wd a (.fieldLink own i (q.2.1 c).1 (q.2.1 c).2.1 (q.2.1 c).2.2.1)
    | none => false)
  | .putfield i => (match vg_nth vwCl b with
    | some q => Nat.blt c q.2.2 && vg_wd a (.fieldLink own i (q.2.1 c).1 (q.2.1 c).2.1 (q.2.1 c).2.2.1) && !(q.2.1 c).2.2.2 && decide (parseFieldDescriptor (q.2.1 c).2.2.1 = some (vg_zt z))
    | none => false)
  | .getstatic i => (match vg_nth vg_stat b with
    | some q => Nat.beq q.1 a && vg_wd z.toNat (.fieldLink own i "NoiseShaper$Taps" q.2 "[I")
    | none => false)
  | .invokevirtual i => (match vg_nth cs a, vg_nth vwCl b with
    | some r, some q => vg_wd z.toNat (.methodLink own i r.1.1) && decide (r.1.1.cls = q.1) && decide ((parseMethodDescriptor r.1.1.desc).map (fun d => d.parameters.length) = some c) && !r.1.2.2.2.2.2.2.2.2
    | _, _ => false)
  | .invokestatic i => (match b with
    | 1 => (match vg_nth cs a with
      | some r => vg_wd z.toNat (.methodLink own i r.1.1) && decide ((parseMethodDescriptor r.1.1.desc).map (fun d => d.parameters.length) = some c) && r.1.2.2.2.2.2.2.2.2
      | none => false)
    | 2 => (match vg_nth cs a with
      | some r => decide (vg_nth vg_nest z.toNat = some (.methodLinkNest own i r.1.1 "NoiseShaper")) && decide ((parseMethodDescriptor r.1.1.desc).map (fun d => d.parameters.length) = some c) && r.1.2.2.2.2.2.2.2.2
      | none => false)
    | 3 => cp && vg_wd z.toNat (.methodLink own i arraycopyName)
    | _ => false)
  | .ireturn => decide (rt = some (vg_zt z))
  | .lreturn => decide (rt = some .long)
  | .areturn => decide (rt = some (.array .int))
  | .return_ => decide (rt = none)
  | .lookupswitch _ ps => (ps.toList.zip (ps.toList.drop 1)).all (fun (a, next) => a.1 < next.1)
  | .tableswitch _ lo hi offs => decide (hi - lo + 1 = (offs.toList.length : Int))
  | _ => true
/-- targets lie within -/
def vg_tg (pc : Nat) (op : Instr) : Bool := match op with
  | .goto o => decide (0 ≤ (pc : Int) + o)
  | .ifCond _ o => decide (0 ≤ (pc : Int) + o)
  | .if_icmp _ o => decide (0 ≤ (pc : Int) + o)
  | .tableswitch d _ _ offs => decide (0 ≤ (pc : Int) + d) && offs.toList.all (fun o => decide (0 ≤ (pc : Int) + o))
  | .lookupswitch d ps => decide (0 ≤ (pc : Int) + d) && ps.toList.all (fun o => decide (0 ≤ (pc : Int) + o.2))
  | _ => true
def vg_ok (own : String) (cc : ByteArray) (cs : List vg_R) (rt : Option FieldType) (cp : Bool) (q : vg_I) : Bool := match q with
  | (pc, op, len, a, b, c, z) => decide (decode cc pc = .ok (op, len)) && Nat.beq len (vg_len op len) && vg_lks own cs rt cp op a b c z && vg_tg pc op
theorem vg_ok_spec {own : String} {cc : ByteArray} {cs : List vg_R} {rt : Option FieldType} {cp : Bool} {pc len a b c : Nat} {op : Instr} {z : Int} (h : vg_ok own cc cs rt cp (pc, op, len, a, b, c, z) = true) : decode cc pc = .ok (op, len) ∧ len = vg_len op len ∧ vg_lks own cs rt cp op a b c z = true ∧ vg_tg pc op = true := by
  simp only [vg_ok, Bool.and_eq_true, decide_eq_true_eq] at h
  exact ⟨h.1.1.1, Nat.eq_of_beq_eq_true h.1.1.2, h.1.2, h.2⟩
def vg_chain : List vg_I → Bool
  | [] => true
  | q :: r => (match r with
    | [] => true
    | q2 :: _ => Nat.beq (q.1 + q.2.2.1) q2.1) && vg_chain r
/-! contracts -/
def vg_ty (dA : Nat → ClassId) : List (ClassId × FieldType) := [(dA 0, .int), (dA 1, .long), (dA 2, .object "NoiseShaper$Fold"), (dA 3, .object "NoiseShaper$Latest")]
/-- what stays as it is: the tables, links to nest mates, rows that nobody writes -/
def vg_E (G : vg_G) (sh : List vg_C) (ro : Nat → Option (Nat × (Nat → Int32))) (U : State) : Prop := va_K G.1 vwCl (vg_ty G.2.1) U ∧ (∀ w ∈ vg_nest, va_Nw w U) ∧ (∀ k n f, ro k = some (n, f) → va_T .int (G.2.2 k) n (fun j => .int (f j)) (vg_A G.2.2 sh.length) U U.heap) ∧ ∀ q ∈ vg_stat, va_Z "NoiseShaper$Taps" q.2 "[I" (.ref (G.2.2 q.1)) (vg_A G.2.2 sh.length) U U.heap
theorem vg_nest_warm {s U : State} (hW : s.WarmedH U.vm) (h : ∀ w ∈ vg_nest, va_Nw w s) : ∀ w ∈ vg_nest, va_Nw w U := by
  intro w hw
  have h1 := h w hw
  simp only [vg_nest, List.mem_cons, List.not_mem_nil, or_false] at hw
  rcases hw with rfl | rfl | rfl | rfl <;> exact va_Nw.warmM hW h1
theorem vg_nest_same {s U : State} (hW : s.vm = U.vm) (h : ∀ w ∈ vg_nest, va_Nw w s) : ∀ w ∈ vg_nest, va_Nw w U := by
  intro w hw
  have h1 := h w hw
  simp only [vg_nest, List.mem_cons, List.not_mem_nil, or_false] at hw
  rcases hw with rfl | rfl | rfl | rfl <;> exact va_Nw.same rfl hW h1
theorem vg_E.go {G : vg_G} {sh : List vg_C} {ro ro' : Nat → Option (Nat × (Nat → Int32))} {s U : State} {H : Heap} {locs : List Loc} (h : vg_E G sh ro s) (hro : ∀ k x, ro' k = some x → ro k = some x) (hS : va_S (vg_A G.2.2 sh.length) s.heap H locs) (hU : U.heap = H) (hW : s.WarmedH U.vm) : vg_E G sh ro' U := by
  obtain ⟨h1, h2, h3, h4⟩ := h
  refine ⟨va_K.moved hW.alike h1, vg_nest_warm hW h2, fun k n f hk => ?_, fun q hq => ?_⟩
  · rw [hU]
    exact ((h3 k n f (hro k _ hk)).moved hW.alike).kept (fun a ha hn => hS.2.1 a ha hn)
  · rw [hU]
    exact ((h4 q hq).moved hW.alike).kept (fun a ha hn => hS.2.1 a ha hn)
theorem vg_E.blind {G : vg_G} {sh : List vg_C} {ro : Nat → Option (Nat × (Nat → Int32))} {U : State} (g : JFrame) (mk : MethodId) (a : Array Value) (h : vg_E G sh ro U) : vg_E G sh ro (U.calling g mk a) := by
  obtain ⟨h1, h2, h3, h4⟩ := h
  exact ⟨va_K.moved (u := U) (U := U.calling g mk a) (Vm.Alike.refl U.vm) h1, vg_nest_same (s := U) (U := U.calling g mk a) rfl h2, fun k n f hk => (h3 k n f hk).moved (u := U) (U := U.calling g mk a) (Vm.Alike.refl U.vm), fun q hq => (h4 q hq).moved (u := U) (U := U.calling g mk a) (Vm.Alike.refl U.vm)⟩
def vg_rf (r : vg_R) (v : Option Value) : Prop := match r.1.2.2.2.2.2.2.1 with
  | 0 => v = none
  | 1 => ∃ x, v = some (.int x)
  | 2 => ∃ x, v = some (.long x)
  | _ => ∃ k, k ∈ r.1.2.2.2.2.2.2.2.1 ∧ v = some (.ref k)
abbrev vg_P (G : vg_G) (sh : List vg_C) (σ : vg_S) (H : Heap) : Prop := va_P G.1 vwCl (vg_cw G.2.1 G.2.2 σ 0 sh) H
def vg_Q (G : vg_G) (sh : List vg_C) (r : vg_R) (as : List Value) (σ : vg_S) : Array Value → State → Outcome → State → Prop := fun _ st oc t => (∃ (v : Option Value) (σ' : vg_S), oc = .returned (v.map (vg_cv G.2.2)) ∧ vg_rf r v ∧ r.2.2 as σ v σ' ∧ vg_P G sh σ' t.heap) ∧ va_F (vg_A G.2.2 sh.length) st t
def vg_rok (r : vg_R) : Prop := Cond.code r.1.1 r.1.2.1 r.1.2.2.1 r.1.2.2.2.1 ∈ vg_GW ∧ Cond.initialized r.1.1.cls ∈ vg_GW ∧ (r.1.1.cls ≠ "java/lang/invoke/MethodHandle" ∧ r.1.1.cls ≠ "java/lang/invoke/VarHandle") ∧ plainFor r.1.1 = true ∧ (match r.1.2.2.2.2.2.2.2.2 with
  | true => Cond.static r.1.1 ∈ vg_GW
  | false => Cond.instanceMethod r.1.1 ∈ vg_GW ∧ Cond.selects r.1.1.cls r.1.1 r.1.1 ∈ vg_GW)
/-- a method keeps its word -/
def vg_Ct (l : Launch) (G : vg_G) (sh : List vg_C) (r : vg_R) : Prop := vg_rok r ∧ ∀ (as : List Value) (σ : vg_S), r.2.1 as σ → Met l r.1.1 (.code r.1.1 r.1.2.1 r.1.2.2.1 r.1.2.2.2.1 :: vg_GW) ({ frames := r.1.2.2.2.2.1, cells := 0, slots := 0, locals := r.1.2.2.2.2.2.1 }) (va_Pc (as.map (vg_cv G.2.2)) (fun U => vg_P G sh σ U.heap ∧ vg_E G sh vg_ro0 U)) (vg_Q G sh r as σ) 0 0 (vg_A G.2.2 sh.length)
def vg_isret (op : Instr) (z : Int) (v : Option Value) : Prop := match op, z, v with
  | .ireturn, .ofNat 0, some (.int _) => True
  | .ireturn, .ofNat 1, some (.int x) => x = 0 ∨ x = 1
  | .lreturn, _, some (.long _) => True
  | .areturn, _, some (.ref _) => True
  | .return_, _, none => True
  | _, _, _ => False
section VGS
variable {p : Program} {l : Launch} {e : Env} {R : Room} {s : State} {m : MethodId} {args : Array Value} {below : List Frame} {meth : Method} {c : Code} {cells slots : Nat} {Q : State → Prop}
variable {own : String} {cc : ByteArray} {nL : Nat} {G : vg_G} {sh : List vg_C} {ro : Nat → Option (Nat × (Nat → Int32))} {cs : List vg_R} {cp : Bool} {rt : Option FieldType} {po : Option Value → vg_S → Prop}
/-- where a walk stands -/
def vg_X (p : Program) (l : Launch) (R : Room) (s : State) (m : MethodId) (args : Array Value) (c : Code) (cells slots : Nat) (own : String) (cc : ByteArray) (nL : Nat) (G : vg_G) (sh : List vg_C) (ro : Nat → Option (Nat × (Nat → Int32))) (cs : List vg_R) (cp : Bool) : Prop :=
  p.tables.exec = Jvm.exec ∧ c.code = cc ∧ c.maxLocals = nL ∧ s.vm.findClass own = some m.cls ∧ (∀ w ∈ vg_GW, w.before args s = true) ∧ (∀ i j, i < sh.length → j < sh.length → G.2.2 i = G.2.2 j → i = j) ∧ vg_E G sh ro s ∧ (∀ k x, vg_ro0 k = some x → ro k = some x) ∧
  (∀ r ∈ cs, vg_Ct l G sh r ∧ r.1.2.2.2.2.1 + 1 ≤ R.frames ∧ 8 + (r.1.2.2.1 + 11) + r.1.2.2.2.2.2.1 ≤ R.locals) ∧ (cp = true → 1 ≤ R.frames ∧ 8 + (nativeFrameWords "java/lang/System" "arraycopy" 5 + 11) ≤ R.locals ∧ (Cond.native arraycopyName).before args s = true ∧ (Cond.static arraycopyName).before args s = true ∧ (Cond.initialized "java/lang/System").before args s = true) ∧ cells ≤ R.cells ∧ slots ≤ R.slots
/-- the classes' words -/
theorem vg_cls {b : Nat} {q : vw_C} (h : vg_nth vwCl b = some q) : (∀ w ∈ u_ws q.1 q.2.1 q.2.2, w ∈ vg_GW) ∧ (∀ a, a < q.2.2 → ∀ b, b < q.2.2 → a ≠ b → (q.2.1 a).2.1 ≠ (q.2.1 b).2.1) ∧ ∃ ty : Nat → FieldType, ∀ k, k < q.2.2 → parseFieldDescriptor (q.2.1 k).2.2.1 = some (ty k) := by
  have good : ∀ (C : String) (T : u_T) (N : Nat), (∀ w ∈ u_ws C T N, w ∈ lw_tbl) → ∀ w ∈ u_ws C T N, w ∈ vg_GW := by
    intro C T N hin w hw
    refine List.mem_filter.mpr ⟨hin w hw, ?_⟩
    obtain ⟨k, -, rfl⟩ := List.mem_map.mp hw
    unfold u_lay
    split <;> rfl
  match b, h with
  | 0, h => cases h; exact ⟨good _ _ _ inX0, nmX0, tyX0, tyX0_ok⟩
  | 1, h => cases h; exact ⟨good _ _ _ inX1, nmX1, tyX1, tyX1_ok⟩
  | 2, h => cases h; exact ⟨good _ _ _ inX2, nmX2, tyX2, tyX2_ok⟩
  | 3, h => cases h; exact ⟨good _ _ _ inX3, nmX3, tyX3, tyX3_ok⟩
  | 4, h => cases h; exact ⟨good _ _ _ inX4, nmX4, tyX4, tyX4_ok⟩
  | 5, h => cases h; exact ⟨good _ _ _ inX5, nmX5, tyX5, tyX5_ok⟩
  | 6, h => cases h; exact ⟨good _ _ _ inX6, nmX6, tyX6, tyX6_ok⟩
  | 7, h => cases h; exact ⟨good _ _ _ inX7, nmX7, tyX7, tyX7_ok⟩
  | 8, h => cases h; exact ⟨good _ _ _ inX8, nmX8, tyX8, tyX8_ok⟩
  | 9, h => cases h; exact ⟨good _ _ _ inX9, nmX9, tyX9, tyX9_ok⟩
  | 10, h => cases h; exact ⟨good _ _ _ inX10, nmX10, tyX10, tyX10_ok⟩
  | 11, h => cases h; exact ⟨good _ _ _ inX11, nmX11, tyX11, tyX11_ok⟩
  | n + 12, h => cases h
theorem vg_nr {z : Int} {x : Int32} (h : z = 0 ∨ (z = 1 ∧ (x = 0 ∨ x = 1))) : narrow (vg_zt z) (.int x) = .int x ∧ fits (vg_zt z) (.int x) = true := by
  rcases h with rfl | ⟨rfl, rfl | rfl⟩ <;> exact ⟨rfl, rfl⟩
/-- behind a call -/
theorem vg_cont {H : Heap} {locs : List Loc} {pc : Nat} {ls : Array Slot} {st0 rest as : List Value} {σ : vg_S} {r : vg_R} {aa : Array Value} (hr : va_Run p l e R s m args below meth c H locs cells slots 0 0 (F0 m pc ls st0) rest (vg_Q G sh r as σ aa) (vg_A G.2.2 sh.length)) (hS : va_S (vg_A G.2.2 sh.length) s.heap H locs)
    (kk : ∀ (v : Option Value) (σ' : vg_S) (H1 : Heap) (locs1 : List Loc), vg_rf r v → r.2.2 as σ v σ' → vg_P G sh σ' H1 → va_S (vg_A G.2.2 sh.length) s.heap H1 locs1 → W p l e R s m args below meth c H1 locs1 cells slots Q (F0 m (pc + 3) ls ((v.map (vg_cv G.2.2)).toList ++ rest))) : W p l e R s m args below meth c H locs cells slots Q (F0 m pc ls st0) := by
  intro T hT X
  obtain ⟨v0, st₀, t, T', L, h0, X', hL, e1, e2, ⟨⟨v, σ', hv, hf, hp, hb⟩, hz, hk⟩, st⟩ := hr T hT X
  cases hv
  rw [h0] at hz hk
  obtain ⟨t2, a1, b1⟩ := kk v σ' T'.heap (locs ++ L) hf hp (by rw [e1]; exact hb)
    ⟨Nat.le_trans hS.1 (by rw [e1]; exact hz), fun q h1 h2 => by rw [e1, hk q (Nat.lt_of_lt_of_le h1 hS.1) h2]; exact hS.2.1 q h1 h2, fun q hq => by
      rcases List.mem_append.mp hq with h | h
      · exact hS.2.2 q h
      · exact hL q h⟩ T' rfl X'
  exact ⟨t2, st t2 a1, b1⟩
theorem vg_pre {σ : vg_S} {H : Heap} {locs : List Loc} (hE : vg_E G sh ro s) (hro : ∀ k x, vg_ro0 k = some x → ro k = some x) (hP : vg_P G sh σ H) (hS : va_S (vg_A G.2.2 sh.length) s.heap H locs) (as : List Value) : PreS s H (va_Pc (as.map (vg_cv G.2.2)) (fun U => vg_P G sh σ U.heap ∧ vg_E G sh vg_ro0 U)) (as.map (vg_cv G.2.2)) := by
  refine ⟨fun a U g mk q => ⟨q.1, q.2.1, q.2.2.blind g mk a⟩, fun U hU hW => ⟨rfl, by rw [hU]; exact hP, hE.go hro hS hU hW⟩⟩
theorem vg_sig {y : MethodName} {n : Nat} (h : (parseMethodDescriptor y.desc).map (fun d => d.parameters.length) = some n) : ∀ sig, parseMethodDescriptor y.desc = some sig → n = sig.parameters.length := by
  intro sig hs
  rw [hs] at h
  exact (Option.some.inj h).symm
/-- the answer of a call, by its kind -/
theorem vg_ans {r : vg_R} {as rest : List Value} {σ σ' : vg_S} {v : Option Value} {K : List Value → vg_S → Prop} (h : vg_call r as rest σ K) (hf : vg_rf r v) (hp : r.2.2 as σ v σ') : K (v.toList ++ rest) σ' := by
  obtain ⟨-, -, h⟩ := h
  unfold vg_rf at hf
  split at h
  · rename_i hk
    rw [hk] at hf
    have hf : v = none := hf
    subst hf
    exact h σ' hp
  · rename_i hk
    rw [hk] at hf
    obtain ⟨x, rfl⟩ : ∃ x, v = some (.int x) := hf
    exact h x σ' hp
  · rename_i hk
    rw [hk] at hf
    obtain ⟨x, rfl⟩ : ∃ x, v = some (.long x) := hf
    exact h x σ' hp
  · rename_i h0 h1 h2
    split at hf
    · exact (h0 ‹_›).elim
    · exact (h1 ‹_›).elim
    · exact (h2 ‹_›).elim
    · obtain ⟨k, hk, rfl⟩ := hf
      generalize r.1.2.2.2.2.2.2.2.1 = refs at h hk
      induction refs with
      | nil => cases hk
      | cons a t ih =>
        rcases List.mem_cons.mp hk with rfl | hk
        · exact h.1 σ' hp
        · exact ih h.2 hk
theorem vg_toList (ad : Nat → Nat) (v : Option Value) (rest : List Value) : (v.map (vg_cv ad)).toList ++ rest.map (vg_cv ad) = (v.toList ++ rest).map (vg_cv ad) := by
  cases v <;> rfl
theorem vg_goV {H : Heap} {locs : List Loc} {ls : Array Slot} {pc a b n i : Nat} {z : Int} {L : vg_L} {st rest : List Value} {σ : vg_S} {o ci : Nat} {ks : List Nat} {r : vg_R} {K : List Value → vg_S → Prop} (X : vg_X p l R s m args c cells slots own cc nL G sh ro cs cp) (hdg : decode cc pc = .ok (.invokevirtual i, 3)) (hlk : vg_lks own cs rt cp (.invokevirtual i) a b n z = true)
    (hl : vg_lr G.2.2 ls nL L) (hP : vg_P G sh σ H) (hS : va_S (vg_A G.2.2 sh.length) s.heap H locs) (hr : vg_nth cs a = some r) (hd : vg_drop n st = .ref o :: rest) (ho : vg_nth sh o = some (.inr (ci, ks))) (hci : Nat.beq ci b = true) (hn : Nat.ble n st.length = true) (h : vg_call r (.ref o :: vg_args n st []) rest σ K)
    (kK : ∀ st σ H locs, K st σ → vg_P G sh σ H → va_S (vg_A G.2.2 sh.length) s.heap H locs → W p l e R s m args below meth c H locs cells slots Q (F0 m (pc + 3) ls (st.map (vg_cv G.2.2)))) : W p l e R s m args below meth c H locs cells slots Q (F0 m pc ls (st.map (vg_cv G.2.2))) := by
  obtain ⟨hx, hb, hml, hown, hts, hap, hE, hro, hcs, -, hc1, hc2⟩ := X
  have hci : ci = b := Nat.eq_of_beq_eq_true hci
  subst hci
  have hn : n ≤ st.length := Nat.le_of_ble_eq_true hn
  have hmem : r ∈ cs := by rw [vg_nth_eq] at hr; exact List.mem_of_getElem? hr
  obtain ⟨⟨⟨hcode, hini, hnm, hpl, hin⟩, hM⟩, hfr, hlo⟩ := hcs r hmem
  simp only [vg_lks, hr] at hlk
  split at hlk
  · rename_i r' q hr' hq
    cases hr'
    simp only [Bool.and_eq_true, decide_eq_true_eq, Bool.not_eq_true'] at hlk
    obtain ⟨⟨⟨h1, h2⟩, h3⟩, h4⟩ := hlk
    rw [h4] at hin
    obtain ⟨hin1, hin2⟩ := hin
    have hstk := vg_stack G.2.2 n st hn
    rw [hd] at hstk
    have ho2 : (vg_cw G.2.1 G.2.2 σ 0 sh)[o]? = some (G.2.2 o, .inr (ci, vg_fl G.2.2 (σ.1 o) (σ.2 o) 0 ks)) := by
      rw [vg_cw_at, ← vg_nth_eq, ho]
      simp [vg_ce]
    have hrec := va_recv (q := q) (q0 := o) hE.1 hP (by rw [← vg_nth_eq]; exact hq) ho2
    rw [← h2] at hrec
    have hws := pay_in hts (fun w hw => (show w ∈ vg_GW ∧ _ from (List.mem_cons.mp hw).elim (fun e => by rw [e]; exact vg_GW_good _ hcode) (fun hw => vg_GW_good w hw)) : GoodIn vg_GW (Cond.code r.1.1 r.1.2.1 r.1.2.2.1 r.1.2.2.2.1 :: vg_GW))
    have hpre := vg_pre (σ := σ) hE hro hP hS (.ref o :: vg_args n st [])
    refine vg_cont (va_runV (C := r.1.1.cls) (b := G.2.2 o) (As := (vg_args n st []).map (vg_cv G.2.2)) (rest := rest.map (vg_cv G.2.2)) (bytes := r.1.2.1) (maxL := r.1.2.2.1) (ret := r.1.2.2.2.1) (n := n) ⟨hx, hb, hml, hown, hts⟩ (hM _ σ h.2.1) ⟨⟨rfl, rfl, hfr, hlo, hws, List.mem_cons_self, hts _ hcode, hts _ hini, hnm, vg_sig h3, hts _ (vg_wd_in h1)⟩, hts _ hin1, hts _ hin2⟩ ⟨hpre.1, hrec, hpre.2⟩ rfl (by rw [List.length_map]; exact vg_args_len n st hn) hl.1.1 hstk (lv_room (by rw [vg_cat_eq]; exact h.1)) hdg ⟨hc1, hc2⟩) hS (fun v σ' H1 locs1 hf hp hP1 hS1 => ?_)
    rw [vg_toList]
    exact kK _ _ _ _ (vg_ans h hf hp) hP1 hS1
  · cases hlk
theorem vg_goS {H : Heap} {locs : List Loc} {ls : Array Slot} {pc a n i : Nat} {z : Int} {L : vg_L} {st : List Value} {σ : vg_S} {r : vg_R} {K : List Value → vg_S → Prop} (X : vg_X p l R s m args c cells slots own cc nL G sh ro cs cp) (hdg : decode cc pc = .ok (.invokestatic i, 3)) {b : Nat} (hb3 : ¬ b = 3) (hlk : vg_lks own cs rt cp (.invokestatic i) a b n z = true)
    (hl : vg_lr G.2.2 ls nL L) (hP : vg_P G sh σ H) (hS : va_S (vg_A G.2.2 sh.length) s.heap H locs) (hr : vg_nth cs a = some r) (hn : Nat.ble n st.length = true) (h : vg_call r (vg_args n st []) (vg_drop n st) σ K)
    (kK : ∀ st σ H locs, K st σ → vg_P G sh σ H → va_S (vg_A G.2.2 sh.length) s.heap H locs → W p l e R s m args below meth c H locs cells slots Q (F0 m (pc + 3) ls (st.map (vg_cv G.2.2)))) : W p l e R s m args below meth c H locs cells slots Q (F0 m pc ls (st.map (vg_cv G.2.2))) := by
  obtain ⟨hx, hb, hml, hown, hts, hap, hE, hro, hcs, -, hc1, hc2⟩ := X
  have hn : n ≤ st.length := Nat.le_of_ble_eq_true hn
  have hmem : r ∈ cs := by rw [vg_nth_eq] at hr; exact List.mem_of_getElem? hr
  obtain ⟨⟨⟨hcode, hini, hnm, hpl, hin⟩, hM⟩, hfr, hlo⟩ := hcs r hmem
  have hstk := vg_stack G.2.2 n st hn
  have hws := pay_in hts (fun w hw => (show w ∈ vg_GW ∧ _ from (List.mem_cons.mp hw).elim (fun e => by rw [e]; exact vg_GW_good _ hcode) (fun hw => vg_GW_good w hw)) : GoodIn vg_GW (Cond.code r.1.1 r.1.2.1 r.1.2.2.1 r.1.2.2.2.1 :: vg_GW))
  have hpre := vg_pre (σ := σ) hE hro hP hS (vg_args n st [])
  simp only [vg_lks, hr] at hlk
  split at hlk
  · simp only [Bool.and_eq_true, decide_eq_true_eq] at hlk
    obtain ⟨⟨h1, h3⟩, h4⟩ := hlk
    rw [h4] at hin
    refine vg_cont (va_runS (As := (vg_args n st []).map (vg_cv G.2.2)) (rest := (vg_drop n st).map (vg_cv G.2.2)) (bytes := r.1.2.1) (maxL := r.1.2.2.1) (ret := r.1.2.2.2.1) (n := n) ⟨hx, hb, hml, hown, hts⟩ (hM _ σ h.2.1) ⟨⟨rfl, rfl, hfr, hlo, hws, List.mem_cons_self, hts _ hcode, hts _ hini, hnm, vg_sig h3, hts _ (vg_wd_in h1)⟩, hts _ hin⟩ hpre rfl (by rw [List.length_map]; exact vg_args_len n st hn) hl.1.1 hstk (lv_room (by rw [vg_cat_eq]; exact h.1)) hdg ⟨hc1, hc2⟩) hS (fun v σ' H1 locs1 hf hp hP1 hS1 => ?_)
    rw [vg_toList]
    exact kK _ _ _ _ (vg_ans h hf hp) hP1 hS1
  · simp only [Bool.and_eq_true, decide_eq_true_eq] at hlk
    obtain ⟨⟨h1, h3⟩, h4⟩ := hlk
    rw [h4] at hin
    have hnw := va_Nw.use (A := args) rfl (hE.2.1 _ (by rw [vg_nth_eq] at h1; exact List.mem_of_getElem? h1))
    refine vg_cont (va_runSN (host := "NoiseShaper") (As := (vg_args n st []).map (vg_cv G.2.2)) (rest := (vg_drop n st).map (vg_cv G.2.2)) (bytes := r.1.2.1) (maxL := r.1.2.2.1) (ret := r.1.2.2.2.1) (n := n) ⟨hx, hb, hml, hown, hts⟩ (hM _ σ h.2.1) ⟨⟨⟨rfl, rfl, hfr, hlo, hws, List.mem_cons_self⟩, hts _ hcode, hts _ hini, hnm, vg_sig h3, hnw⟩, hts _ hin, trivial⟩ hpre rfl (by rw [List.length_map]; exact vg_args_len n st hn) hl.1.1 hstk (lv_room (by rw [vg_cat_eq]; exact h.1)) hdg ⟨hc1, hc2⟩) hS (fun v σ' H1 locs1 hf hp hP1 hS1 => ?_)
    rw [vg_toList]
    exact kK _ _ _ _ (vg_ans h hf hp) hP1 hS1
  · exact (hb3 rfl).elim
  · cases hlk
theorem vg_nn {x : Int32} (h : 0 ≤ x.toInt) : ¬ x < 0 := fun q => by
  have := Int32.lt_iff_toInt_lt.mp q
  simp at this
  omega
theorem vg_clamp (x : Int32) : x.toNatClampNeg = x.toInt.toNat := rfl
theorem vg_tb_go {f : Nat → Prop} {pc : Nat} {x : Int32} : ∀ (offs : List Int) (lo : Int), vg_tb f pc x lo offs → ∀ (k : Nat) (o : Int), x.toInt = lo + k → offs[k]? = some o → f ((pc : Int) + o).toNat
  | [], lo, h, k, o, hx, ho => by simp at ho
  | o0 :: r, lo, h, 0, o, hx, ho => by
    simp at ho
    subst ho
    exact h.1 (by simpa using hx)
  | o0 :: r, lo, h, k + 1, o, hx, ho => vg_tb_go r (lo + 1) h.2 k o (by rw [hx]; push_cast; omega) (by simpa using ho)
theorem vg_lk_go {f : Nat → Prop} {pc : Nat} {x : Int32} {d : Int} : ∀ (ps : List (Int × Int)), vg_lk f pc x d ps → f ((pc : Int) + Op.lookupswitch.offset ps d x.toInt).toNat
  | [], h => h
  | (a, o) :: r, h => by
    rw [Op.lookupswitch.offset_cons]
    by_cases hx : x.toInt = a
    · rw [if_pos hx.symm]
      exact h.1 hx
    · rw [if_neg (fun q => hx q.symm)]
      exact vg_lk_go r (h.2 hx)
theorem vg_lk_nn {pc : Nat} {d x : Int} : ∀ (ps : List (Int × Int)), 0 ≤ (pc : Int) + d → ps.all (fun o => decide (0 ≤ (pc : Int) + o.2)) = true → 0 ≤ (pc : Int) + Op.lookupswitch.offset ps d x
  | [], h, _ => h
  | (a, o) :: r, h, h2 => by
    simp only [List.all_cons, Bool.and_eq_true, decide_eq_true_eq] at h2
    rw [Op.lookupswitch.offset_cons]
    split
    · exact h2.1
    · exact vg_lk_nn r h h2.2
theorem vg_al_go {f : Nat → Prop} {i : Int32} : ∀ (rs : List Nat) (j : Nat), vg_al f i j rs → ∀ (t k : Nat), i.toInt = ((j + t : Nat) : Int) → rs[t]? = some k → f k
  | [], j, h, t, k, hi, hk => by simp at hk
  | a :: r, j, h, 0, k, hi, hk => by
    simp at hk
    subst hk
    exact h.1 (by simpa using hi)
  | a :: r, j, h, t + 1, k, hi, hk => vg_al_go r (j + 1) h.2 t k (by rw [hi]; congr 1; omega) (by simpa using hk)
set_option maxHeartbeats 4000000 in
/-- one instruction -/
theorem vg_ex_sound {H : Heap} {locs : List Loc} {ls : Array Slot} {pc len a b c0 : Nat} {op : Instr} {z : Int} {L : vg_L} {st : List Value} {σ : vg_S} {K : vg_L → List Value → vg_S → Prop} {J : vg_L → List Value → vg_S → Nat → Prop} (X : vg_X p l R s m args c cells slots own cc nL G sh ro cs cp) (hsh : ∀ r t n rs, vg_nth sh r = some (.inl (t + 2, n, rs)) → t = 0 ∨ t = 1) (hok : vg_ok own cc cs rt cp (pc, op, len, a, b, c0, z) = true)
    (hl : vg_lr G.2.2 ls nL L) (hP : vg_P G sh σ H) (hS : va_S (vg_A G.2.2 sh.length) s.heap H locs) (h : vg_ex sh ro cs po K J (pc, op, len, a, b, c0, z) L st σ)
    (kK : ∀ L st σ H locs ls, K L st σ → vg_lr G.2.2 ls nL L → vg_P G sh σ H → va_S (vg_A G.2.2 sh.length) s.heap H locs → W p l e R s m args below meth c H locs cells slots Q (F0 m (pc + len) ls (st.map (vg_cv G.2.2))))
    (kJ : ∀ L st σ t H locs ls, J L st σ t → vg_lr G.2.2 ls nL L → vg_P G sh σ H → va_S (vg_A G.2.2 sh.length) s.heap H locs → W p l e R s m args below meth c H locs cells slots Q (F0 m t ls (st.map (vg_cv G.2.2))))
    (kR : ∀ v σ H locs ls, vg_ok own cc cs rt cp (pc, op, len, a, b, c0, z) = true → vg_isret op z v → po v σ → vg_lr G.2.2 ls nL L → vg_P G sh σ H → va_S (vg_A G.2.2 sh.length) s.heap H locs → W p l e R s m args below meth c H locs cells slots Q (F0 m pc ls ((v.map (vg_cv G.2.2)).toList))) : W p l e R s m args below meth c H locs cells slots Q (F0 m pc ls (st.map (vg_cv G.2.2))) := by
  obtain ⟨hx, hb, hml, hown, hts, hap, hE, hro, hcs, hcp, hc1, hc2⟩ := id X
  obtain ⟨hdg, hln, hlk, htg⟩ := vg_ok_spec hok
  cases op with
  | iconst i =>
    have hln : len = 1 := hln
    subst hln
    exact lv_iconst hx hb hdg rfl (kK _ _ _ _ _ _ h hl hP hS)
  | bipush i =>
    have hln : len = 2 := hln
    subst hln
    exact lv_bipush hx hb hdg (of_decide_eq_true hlk) (kK _ _ _ _ _ _ h hl hP hS)
  | sipush i =>
    have hln : len = 3 := hln
    subst hln
    exact lv_sipush hx hb hdg (of_decide_eq_true hlk) (kK _ _ _ _ _ _ h hl hP hS)
  | lconst i =>
    have hln : len = 1 := hln
    subst hln
    exact lv_lconst hx hb hdg rfl (kK _ _ _ _ _ _ h hl hP hS)
  | ldc i =>
    have hln : len = 2 := hln
    subst hln
    exact lv_ldc hx hb hown (hts _ (vg_wd_in hlk)) hdg (kK _ _ _ _ _ _ h hl hP hS)
  | ldc_w i =>
    have hln : len = 3 := hln
    subst hln
    exact lv_ldcw hx hb hown (hts _ (vg_wd_in hlk)) hdg (kK _ _ _ _ _ _ h hl hP hS)
  | ldc2_w i =>
    have hln : len = 3 := hln
    subst hln
    exact lv_ldc2 hx hb hown (hts _ (vg_wd_in hlk)) hdg (kK _ _ _ _ _ _ h hl hP hS)
  | iload_n i =>
    have hln : len = 1 := hln
    subst hln
    simp only [vg_ex] at h
    split at h
    · rename_i x hi
      exact lv_iload_n hx hb hdg rfl (hl.at hi) (kK _ _ _ _ _ _ h hl hP hS)
    · exact h.elim
  | iload i =>
    have hln : len = 2 := hln
    subst hln
    simp only [vg_ex] at h
    split at h
    · rename_i x hi
      exact lv_iload hx hb hdg (hl.at hi) (kK _ _ _ _ _ _ h hl hP hS)
    · exact h.elim
  | lload_n i =>
    have hln : len = 1 := hln
    subst hln
    simp only [vg_ex] at h
    split at h
    · rename_i x hi
      exact lv_lload_n hx hb hdg rfl (hl.at hi) (kK _ _ _ _ _ _ h hl hP hS)
    · exact h.elim
  | lload i =>
    have hln : len = 2 := hln
    subst hln
    simp only [vg_ex] at h
    split at h
    · rename_i x hi
      exact lv_lload hx hb hdg (hl.at hi) (kK _ _ _ _ _ _ h hl hP hS)
    · exact h.elim
  | aload_n i =>
    have hln : len = 1 := hln
    subst hln
    simp only [vg_ex] at h
    split at h
    · rename_i x hi
      exact lv_aload_n hx hb hdg rfl (hl.at hi) (kK _ _ _ _ _ _ h hl hP hS)
    · exact h.elim
  | aload i =>
    have hln : len = 2 := hln
    subst hln
    simp only [vg_ex] at h
    split at h
    · rename_i x hi
      exact lv_aload hx hb hdg (hl.at hi) (kK _ _ _ _ _ _ h hl hP hS)
    · exact h.elim
  | istore_n i =>
    have hln : len = 1 := hln
    subst hln
    simp only [vg_ex] at h
    split at h
    · rename_i hi
      exact lv_istore_n (nL := nL) hx hb hdg rfl hl.1 (by rw [← hl.2]; exact vg_nth_lt hi) rfl (fun ls' hl' => kK _ _ _ _ _ _ h (hl.s1 (v := (.int _)) hl') hP hS)
    · exact h.elim
  | istore i =>
    have hln : len = 2 := hln
    subst hln
    simp only [vg_ex] at h
    split at h
    · rename_i hi
      exact lv_istore (nL := nL) hx hb hdg hl.1 (by rw [← hl.2]; exact vg_nth_lt hi) rfl (fun ls' hl' => kK _ _ _ _ _ _ h (hl.s1 (v := (.int _)) hl') hP hS)
    · exact h.elim
  | astore_n i =>
    have hln : len = 1 := hln
    subst hln
    simp only [vg_ex] at h
    split at h
    · rename_i hi
      exact lv_astore_n (nL := nL) hx hb hdg rfl hl.1 (by rw [← hl.2]; exact vg_nth_lt hi) rfl (fun ls' hl' => kK _ _ _ _ _ _ h (hl.s1 (v := (.ref _)) hl') hP hS)
    · exact h.elim
  | astore i =>
    have hln : len = 2 := hln
    subst hln
    simp only [vg_ex] at h
    split at h
    · rename_i hi
      exact lv_astore (nL := nL) hx hb hdg hl.1 (by rw [← hl.2]; exact vg_nth_lt hi) rfl (fun ls' hl' => kK _ _ _ _ _ _ h (hl.s1 (v := (.ref _)) hl') hP hS)
    · exact h.elim
  | lstore_n i =>
    have hln : len = 1 := hln
    subst hln
    simp only [vg_ex] at h
    split at h
    · rename_i hi
      exact lv_lstore_n (nL := nL) hx hb hdg rfl hl.1 (by rw [← hl.2]; exact vg_nth_lt hi) rfl (fun ls' hl' => kK _ _ _ _ _ _ h (hl.s2 (v := .long _) (vg_nth_lt hi) hl') hP hS)
    · exact h.elim
  | lstore i =>
    have hln : len = 2 := hln
    subst hln
    simp only [vg_ex] at h
    split at h
    · rename_i hi
      exact lv_lstore (nL := nL) hx hb hdg hl.1 (by rw [← hl.2]; exact vg_nth_lt hi) rfl (fun ls' hl' => kK _ _ _ _ _ _ h (hl.s2 (v := .long _) (vg_nth_lt hi) hl') hP hS)
    · exact h.elim
  | iinc i n =>
    have hln : len = 3 := hln
    subst hln
    simp only [vg_ex] at h
    split at h
    · rename_i x hi
      obtain ⟨k, hk⟩ := List.getElem?_of_mem (vg_la_in G.2.2 L 0 i (.int x) hi)
      rw [Nat.zero_add] at hk
      exact lv_iinc (nL := nL) (k := k) (x := x) hx hb hdg hl.1 hk rfl (by rw [← hl.2]; exact vg_nth_lt hi) rfl (fun ls' hl' => kK _ _ _ _ _ _ (h _ rfl) (hl.s1 (v := .int _) hl') hP hS)
    · exact h.elim
  | iadd =>
    have hln : len = 1 := hln
    subst hln
    simp only [vg_ex] at h
    split at h
    · exact lv_iadd hx hb hdg (kK _ _ _ _ _ _ (h _ rfl) hl hP hS)
    · exact h.elim
  | isub =>
    have hln : len = 1 := hln
    subst hln
    simp only [vg_ex] at h
    split at h
    · exact lv_isub hx hb hdg (kK _ _ _ _ _ _ (h _ rfl) hl hP hS)
    · exact h.elim
  | imul =>
    have hln : len = 1 := hln
    subst hln
    simp only [vg_ex] at h
    split at h
    · exact lv_imul hx hb hdg (kK _ _ _ _ _ _ (h _ rfl) hl hP hS)
    · exact h.elim
  | iand =>
    have hln : len = 1 := hln
    subst hln
    simp only [vg_ex] at h
    split at h
    · exact lv_iand hx hb hdg (kK _ _ _ _ _ _ (h _ rfl) hl hP hS)
    · exact h.elim
  | ior =>
    have hln : len = 1 := hln
    subst hln
    simp only [vg_ex] at h
    split at h
    · exact lv_ior hx hb hdg (kK _ _ _ _ _ _ (h _ rfl) hl hP hS)
    · exact h.elim
  | ixor =>
    have hln : len = 1 := hln
    subst hln
    simp only [vg_ex] at h
    split at h
    · exact lv_ixor hx hb hdg (kK _ _ _ _ _ _ (h _ rfl) hl hP hS)
    · exact h.elim
  | ishl =>
    have hln : len = 1 := hln
    subst hln
    simp only [vg_ex] at h
    split at h
    · exact lv_ishl hx hb hdg (kK _ _ _ _ _ _ (h _ rfl) hl hP hS)
    · exact h.elim
  | ishr =>
    have hln : len = 1 := hln
    subst hln
    simp only [vg_ex] at h
    split at h
    · exact lv_ishr hx hb hdg (kK _ _ _ _ _ _ (h _ rfl) hl hP hS)
    · exact h.elim
  | ineg =>
    have hln : len = 1 := hln
    subst hln
    simp only [vg_ex] at h
    split at h
    · exact lv_ineg hx hb hdg (kK _ _ _ _ _ _ (h _ rfl) hl hP hS)
    · exact h.elim
  | ladd =>
    have hln : len = 1 := hln
    subst hln
    simp only [vg_ex] at h
    split at h
    · exact lv_ladd hx hb hdg (kK _ _ _ _ _ _ (h _ rfl) hl hP hS)
    · exact h.elim
  | lsub =>
    have hln : len = 1 := hln
    subst hln
    simp only [vg_ex] at h
    split at h
    · exact lv_lsub hx hb hdg (kK _ _ _ _ _ _ (h _ rfl) hl hP hS)
    · exact h.elim
  | lmul =>
    have hln : len = 1 := hln
    subst hln
    simp only [vg_ex] at h
    split at h
    · exact lv_lmul hx hb hdg (kK _ _ _ _ _ _ (h _ rfl) hl hP hS)
    · exact h.elim
  | land =>
    have hln : len = 1 := hln
    subst hln
    simp only [vg_ex] at h
    split at h
    · exact lv_land hx hb hdg (kK _ _ _ _ _ _ (h _ rfl) hl hP hS)
    · exact h.elim
  | lneg =>
    have hln : len = 1 := hln
    subst hln
    simp only [vg_ex] at h
    split at h
    · exact lv_lneg hx hb hdg (kK _ _ _ _ _ _ (h _ rfl) hl hP hS)
    · exact h.elim
  | lcmp =>
    have hln : len = 1 := hln
    subst hln
    simp only [vg_ex] at h
    split at h
    · exact W.lcmp hx hb hdg (kK _ _ _ _ _ _ (h _ rfl) hl hP hS)
    · exact h.elim
  | iushr =>
    have hln : len = 1 := hln
    subst hln
    simp only [vg_ex] at h
    split at h
    · exact lv_iushr hx hb hdg rfl (kK _ _ _ _ _ _ (h _ rfl) hl hP hS)
    · exact h.elim
  | lshl =>
    have hln : len = 1 := hln
    subst hln
    simp only [vg_ex] at h
    split at h
    · exact lv_lshl hx hb hdg rfl (kK _ _ _ _ _ _ (h _ rfl) hl hP hS)
    · exact h.elim
  | lshr =>
    have hln : len = 1 := hln
    subst hln
    simp only [vg_ex] at h
    split at h
    · exact lv_lshr hx hb hdg rfl (kK _ _ _ _ _ _ (h _ rfl) hl hP hS)
    · exact h.elim
  | i2l =>
    have hln : len = 1 := hln
    subst hln
    simp only [vg_ex] at h
    split at h
    · exact lv_i2l hx hb hdg rfl (kK _ _ _ _ _ _ (h _ rfl) hl hP hS)
    · exact h.elim
  | l2i =>
    have hln : len = 1 := hln
    subst hln
    simp only [vg_ex] at h
    split at h
    · exact lv_l2i hx hb hdg rfl (kK _ _ _ _ _ _ (h _ rfl) hl hP hS)
    · exact h.elim
  | idiv =>
    have hln : len = 1 := hln
    subst hln
    simp only [vg_ex] at h
    split at h
    · exact lv_idiv hx hb hdg (fun q => h.1 (by rw [q]; rfl)) (kK _ _ _ _ _ _ (h.2 _ rfl) hl hP hS)
    · exact h.elim
  | irem =>
    have hln : len = 1 := hln
    subst hln
    simp only [vg_ex] at h
    split at h
    · exact lv_irem hx hb hdg (fun q => h.1 (by rw [q]; rfl)) (kK _ _ _ _ _ _ (h.2 _ rfl) hl hP hS)
    · exact h.elim
  | ldiv =>
    have hln : len = 1 := hln
    subst hln
    simp only [vg_ex] at h
    split at h
    · exact lv_ldiv hx hb hdg (fun q => h.1 (by rw [q]; rfl)) (kK _ _ _ _ _ _ (h.2 _ rfl) hl hP hS)
    · exact h.elim
  | lrem =>
    have hln : len = 1 := hln
    subst hln
    simp only [vg_ex] at h
    split at h
    · exact lv_lrem hx hb hdg (fun q => h.1 (by rw [q]; rfl)) (kK _ _ _ _ _ _ (h.2 _ rfl) hl hP hS)
    · exact h.elim
  | dup =>
    have hln : len = 1 := hln
    subst hln
    simp only [vg_ex] at h
    split at h
    · exact lv_dup hx hb hdg rfl (kK _ _ _ _ _ _ h hl hP hS)
    · exact lv_dup hx hb hdg rfl (kK _ _ _ _ _ _ h hl hP hS)
    · exact h.elim
  | dup2 =>
    have hln : len = 1 := hln
    subst hln
    simp only [vg_ex] at h
    split at h
    · exact lv_dup2_11 hx hb hdg rfl rfl (kK _ _ _ _ _ _ h hl hP hS)
    · exact lv_dup2_2 hx hb hdg rfl (kK _ _ _ _ _ _ h hl hP hS)
    · exact h.elim
  | pop =>
    have hln : len = 1 := hln
    subst hln
    simp only [vg_ex] at h
    split at h
    · exact lv_pop hx hb hdg rfl (kK _ _ _ _ _ _ h hl hP hS)
    · exact h.elim
  | pop2 =>
    have hln : len = 1 := hln
    subst hln
    simp only [vg_ex] at h
    split at h
    · exact lv_pop2_2 hx hb hdg rfl (kK _ _ _ _ _ _ h hl hP hS)
    · exact h.elim
  | goto off =>
    have hln : len = 3 := hln
    subst hln
    have htg : 0 ≤ (pc : Int) + off := of_decide_eq_true htg
    exact lv_goto hx hb hdg (Int.toNat_of_nonneg htg).symm (kJ _ _ _ _ _ _ _ h hl hP hS)
  | ifCond cd off =>
    have hln : len = 3 := hln
    subst hln
    have htq : 0 ≤ (pc : Int) + off := of_decide_eq_true htg
    clear htg
    simp only [vg_ex] at h
    split at h
    · cases cd with
      | eq => exact lv_if_eq (tgt := ((pc : Int) + off).toNat) hx hb hdg (Int.toNat_of_nonneg htq).symm (fun q => kJ _ _ _ _ _ _ _ (h.1 (vg_b_if_eq.mp q)) hl hP hS) (fun q => kK _ _ _ _ _ _ (h.2 (fun z => q (vg_b_if_eq.mpr z))) hl hP hS)
      | ne => exact lv_if_ne (tgt := ((pc : Int) + off).toNat) hx hb hdg (Int.toNat_of_nonneg htq).symm (fun q => kJ _ _ _ _ _ _ _ (h.1 (vg_b_if_ne.mp q)) hl hP hS) (fun q => kK _ _ _ _ _ _ (h.2 (fun z => vg_b_if_ne.mpr z q)) hl hP hS)
      | lt => exact lv_if_lt (tgt := ((pc : Int) + off).toNat) hx hb hdg (Int.toNat_of_nonneg htq).symm (fun q => kJ _ _ _ _ _ _ _ (h.1 (vg_b_if_lt.mp q)) hl hP hS) (fun q => kK _ _ _ _ _ _ (h.2 (fun z => q (vg_b_if_lt.mpr z))) hl hP hS)
      | ge => exact lv_if_ge (tgt := ((pc : Int) + off).toNat) hx hb hdg (Int.toNat_of_nonneg htq).symm (fun q => kJ _ _ _ _ _ _ _ (h.1 (vg_b_if_ge.mp q)) hl hP hS) (fun q => kK _ _ _ _ _ _ (h.2 (fun z => q (vg_b_if_ge.mpr z))) hl hP hS)
      | gt => exact lv_if_gt (tgt := ((pc : Int) + off).toNat) hx hb hdg (Int.toNat_of_nonneg htq).symm (fun q => kJ _ _ _ _ _ _ _ (h.1 (vg_b_if_gt.mp q)) hl hP hS) (fun q => kK _ _ _ _ _ _ (h.2 (fun z => q (vg_b_if_gt.mpr z))) hl hP hS)
      | le => exact lv_if_le (tgt := ((pc : Int) + off).toNat) hx hb hdg (Int.toNat_of_nonneg htq).symm (fun q => kJ _ _ _ _ _ _ _ (h.1 (vg_b_if_le.mp q)) hl hP hS) (fun q => kK _ _ _ _ _ _ (h.2 (fun z => q (vg_b_if_le.mpr z))) hl hP hS)
    · exact h.elim
  | if_icmp cd off =>
    have hln : len = 3 := hln
    subst hln
    have htq : 0 ≤ (pc : Int) + off := of_decide_eq_true htg
    clear htg
    simp only [vg_ex] at h
    split at h
    · cases cd with
      | eq => exact lv_icmp_eq (tgt := ((pc : Int) + off).toNat) hx hb hdg (Int.toNat_of_nonneg htq).symm (fun q => kJ _ _ _ _ _ _ _ (h.1 (vg_b_icmp_eq.mp q)) hl hP hS) (fun q => kK _ _ _ _ _ _ (h.2 (fun z => q (vg_b_icmp_eq.mpr z))) hl hP hS)
      | ne => exact lv_icmp_ne (tgt := ((pc : Int) + off).toNat) hx hb hdg (Int.toNat_of_nonneg htq).symm (fun q => kJ _ _ _ _ _ _ _ (h.1 (vg_b_icmp_ne.mp q)) hl hP hS) (fun q => kK _ _ _ _ _ _ (h.2 (fun z => vg_b_icmp_ne.mpr z q)) hl hP hS)
      | lt => exact lv_icmp_lt (tgt := ((pc : Int) + off).toNat) hx hb hdg (Int.toNat_of_nonneg htq).symm (fun q => kJ _ _ _ _ _ _ _ (h.1 (vg_b_icmp_lt.mp q)) hl hP hS) (fun q => kK _ _ _ _ _ _ (h.2 (fun z => q (vg_b_icmp_lt.mpr z))) hl hP hS)
      | ge => exact lv_icmp_ge (tgt := ((pc : Int) + off).toNat) hx hb hdg (Int.toNat_of_nonneg htq).symm (fun q => kJ _ _ _ _ _ _ _ (h.1 (vg_b_icmp_ge.mp q)) hl hP hS) (fun q => kK _ _ _ _ _ _ (h.2 (fun z => q (vg_b_icmp_ge.mpr z))) hl hP hS)
      | gt => exact lv_icmp_gt (tgt := ((pc : Int) + off).toNat) hx hb hdg (Int.toNat_of_nonneg htq).symm (fun q => kJ _ _ _ _ _ _ _ (h.1 (vg_b_icmp_gt.mp q)) hl hP hS) (fun q => kK _ _ _ _ _ _ (h.2 (fun z => q (vg_b_icmp_gt.mpr z))) hl hP hS)
      | le => exact lv_icmp_le (tgt := ((pc : Int) + off).toNat) hx hb hdg (Int.toNat_of_nonneg htq).symm (fun q => kJ _ _ _ _ _ _ _ (h.1 (vg_b_icmp_le.mp q)) hl hP hS) (fun q => kK _ _ _ _ _ _ (h.2 (fun z => q (vg_b_icmp_le.mpr z))) hl hP hS)
    · exact h.elim
  | tableswitch d lo hi offs =>
    simp only [vg_tg, Bool.and_eq_true, decide_eq_true_eq, List.all_eq_true] at htg
    simp only [vg_ex] at h
    split at h
    · rename_i x st
      by_cases hx1 : x.toInt < lo ∨ hi < x.toInt
      · exact lv_tableOut hx hb hdg hx1 (Int.toNat_of_nonneg htg.1).symm (kJ _ _ _ _ _ _ _ (h.1 hx1) hl hP hS)
      · have h1 : ¬ x.toInt < lo := fun q => hx1 (Or.inl q)
        have h2 : ¬ hi < x.toInt := fun q => hx1 (Or.inr q)
        have hlen : hi - lo + 1 = (offs.toList.length : Int) := of_decide_eq_true hlk
        have hk : (x.toInt - lo).toNat < offs.toList.length := by omega
        have ho : offs[(x.toInt - lo).toNat]? = some (offs.toList[(x.toInt - lo).toNat]'hk) := by
          rw [← Array.getElem?_toList]
          exact List.getElem?_eq_getElem hk
        have hg := vg_tb_go offs.toList lo h.2 (x.toInt - lo).toNat _ (by omega) (List.getElem?_eq_getElem hk)
        exact lv_tableIn hx hb hdg h1 h2 ho (Int.toNat_of_nonneg (htg.2 _ (List.getElem_mem hk))).symm (kJ _ _ _ _ _ _ _ hg hl hP hS)
    · exact h.elim
  | lookupswitch d ps =>
    simp only [vg_tg, Bool.and_eq_true, decide_eq_true_eq] at htg
    simp only [vg_ex] at h
    split at h
    · rename_i x st
      have hg := vg_lk_go ps.toList h
      exact lv_lookup hx hb hdg hlk rfl (Int.toNat_of_nonneg (vg_lk_nn ps.toList htg.1 htg.2)).symm (kJ _ _ _ _ _ _ _ hg hl hP hS)
    · exact h.elim
  | getfield i =>
    have hln : len = 3 := hln
    subst hln
    simp only [vg_ex] at h
    split at h
    · rename_i r st
      split at h
      · rename_i ci ks hr
        simp only [vg_lks] at hlk
        split at hlk
        · rename_i q hq
          simp only [Bool.and_eq_true] at hlk
          have hcls := vg_cls hq
          have hc0 : c0 < q.2.2 := by simpa [Nat.blt_eq] using hlk.1
          have he : (vg_cw G.2.1 G.2.2 σ 0 sh)[r]? = some (G.2.2 r, .inr (ci, vg_fl G.2.2 (σ.1 r) (σ.2 r) 0 ks)) := by
            rw [vg_cw_at, ← vg_nth_eq, hr]
            simp [vg_ce]
          have hq2 : vwCl[b]? = some q := by rw [← vg_nth_eq]; exact hq
          have go : ∀ v, vg_fl G.2.2 (σ.1 r) (σ.2 r) 0 ks = vg_fl G.2.2 (σ.1 r) (σ.2 r) 0 ks → ci = b → (vg_fl G.2.2 (σ.1 r) (σ.2 r) 0 ks)[c0]? = some (vg_cv G.2.2 v) → K L (v :: st) σ → W p l e R s m args below meth c H locs cells slots Q (F0 m pc ls (List.map (vg_cv G.2.2) (Value.ref r :: st))) := by
            intro v _ hb2 hv hk
            subst hb2
            exact va_get (D := G.1) (C := q.1) (T := q.2.1) (N := q.2.2) hx hb hts hcls.1 hown hE.1 hP r he hq2 c0 hc0 (hts _ (vg_wd_in hlk.2)) (fun _ h9 => h9) hv hdg (kK _ _ _ _ _ _ hk hl hP hS)
          split at h
          · rename_i hb2 hk
            exact go (.int (σ.1 r c0)) rfl (Nat.eq_of_beq_eq_true hb2) (by rw [vg_fl_at, ← vg_nth_eq, hk]; simp [vg_fv, vg_cv]) (h _ rfl)
          · rename_i hb2 hk
            exact go (.long (σ.2 r c0)) rfl (Nat.eq_of_beq_eq_true hb2) (by rw [vg_fl_at, ← vg_nth_eq, hk]; simp [vg_fv, vg_cv]) (h _ rfl)
          · rename_i n hb2 hk
            exact go (.ref n) rfl (Nat.eq_of_beq_eq_true hb2) (by rw [vg_fl_at, ← vg_nth_eq, hk]; simp [vg_fv, vg_cv]) h
          · exact h.elim
        · cases hlk
      · exact h.elim
    · exact h.elim
  | putfield i =>
    have hln : len = 3 := hln
    subst hln
    simp only [vg_ex] at h
    simp only [vg_lks] at hlk
    split at hlk
    · rename_i q hq
      simp only [Bool.and_eq_true, decide_eq_true_eq, Bool.not_eq_true'] at hlk
      obtain ⟨⟨⟨hk0, hlw⟩, hfin⟩, hpd⟩ := hlk
      have hcls := vg_cls hq
      obtain ⟨ty0, hty⟩ := hcls.2.2
      have hc0 : c0 < q.2.2 := by simpa [Nat.blt_eq] using hk0
      have hq2 : vwCl[b]? = some q := by rw [← vg_nth_eq]; exact hq
      have hD := vg_cw_D G.2.1 G.2.2 σ sh hap
      split at h
      · rename_i x r st
        split at h
        · rename_i ci ks hr
          have hr2 : sh[r]? = some (.inr (ci, ks)) := by rw [← vg_nth_eq]; exact hr
          have he : (vg_cw G.2.1 G.2.2 σ 0 sh)[r]? = some (G.2.2 r, .inr (ci, vg_fl G.2.2 (σ.1 r) (σ.2 r) 0 ks)) := by
            rw [vg_cw_at, hr2]
            simp [vg_ce]
          have go : ci = b → vg_nth ks c0 = some 0 → (z = 0 ∨ (z = 1 ∧ (x = 0 ∨ x = 1))) → K L st (vg_u1 σ r c0 x) → W p l e R s m args below meth c H locs cells slots Q (F0 m pc ls (List.map (vg_cv G.2.2) (Value.int x :: Value.ref r :: st))) := by
            intro hb2 hk hz hh
            subst hb2
            have hk2 : ks[c0]? = some 0 := by rw [← vg_nth_eq]; exact hk
            have hnr := vg_nr hz
            refine va_put (D := G.1) (C := q.1) (T := q.2.1) (N := q.2.2) (v := .int x) hx hb hts hcls.1 ty0 hty hcls.2.1 hown hE.1 hP hD hS r he hq2 c0 hc0 (hts _ (vg_wd_in hlw)) (fun _ h9 => h9) hfin hpd hnr.1 hnr.2 (by rw [vg_fl_len]; exact (List.getElem?_eq_some_iff.mp hk2).1) hdg (fun H1 locs1 hP1 hD1 hS1 => kK _ _ _ _ _ _ hh hl ?_ hS1)
            rw [vg_fl_set1 _ _ _ _ _ _ hk2] at hP1
            have := vg_cw_set1 G.2.1 G.2.2 σ sh r (.inr (ci, ks)) (upd (σ.1 r) c0 x) hr2
            simp only [vg_ce] at this
            rw [this] at hP1
            exact hP1
          split at h
          · rename_i hb2 hk
            exact go (Nat.eq_of_beq_eq_true hb2) hk (Or.inl rfl) (h _ rfl)
          · rename_i hb2 hk
            exact go (Nat.eq_of_beq_eq_true hb2) hk (Or.inr ⟨rfl, h.1⟩) (h.2 _ rfl)
          · exact h.elim
        · exact h.elim
      · rename_i x r st
        split at h
        · rename_i ci ks hr
          have hr2 : sh[r]? = some (.inr (ci, ks)) := by rw [← vg_nth_eq]; exact hr
          have he : (vg_cw G.2.1 G.2.2 σ 0 sh)[r]? = some (G.2.2 r, .inr (ci, vg_fl G.2.2 (σ.1 r) (σ.2 r) 0 ks)) := by
            rw [vg_cw_at, hr2]
            simp [vg_ce]
          split at h
          · rename_i hb2 hk
            have hb2 := Nat.eq_of_beq_eq_true hb2
            subst hb2
            have hk2 : ks[c0]? = some 1 := by rw [← vg_nth_eq]; exact hk
            refine va_put (D := G.1) (C := q.1) (T := q.2.1) (N := q.2.2) (ty := .long) (v := .long x) hx hb hts hcls.1 ty0 hty hcls.2.1 hown hE.1 hP hD hS r he hq2 c0 hc0 (hts _ (vg_wd_in hlw)) (fun _ h9 => h9) hfin hpd rfl rfl (by rw [vg_fl_len]; exact (List.getElem?_eq_some_iff.mp hk2).1) hdg (fun H1 locs1 hP1 hD1 hS1 => kK _ _ _ _ _ _ (h _ rfl) hl ?_ hS1)
            rw [vg_fl_set2 _ _ _ _ _ _ hk2] at hP1
            have := vg_cw_set2 G.2.1 G.2.2 σ sh r (.inr (ci, ks)) (vp_updL (σ.2 r) c0 x) hr2
            simp only [vg_ce] at this
            rw [this] at hP1
            exact hP1
          · exact h.elim
        · exact h.elim
      · exact h.elim
    · cases hlk
  | getstatic i =>
    have hln : len = 3 := hln
    subst hln
    simp only [vg_ex] at h
    simp only [vg_lks] at hlk
    split at hlk
    · rename_i q hq
      simp only [Bool.and_eq_true] at hlk
      have ha : q.1 = a := Nat.eq_of_beq_eq_true hlk.1
      subst ha
      split at h
      · exact va_gets hx hb (hE.2.2.2 q (by rw [vg_nth_eq] at hq; exact List.mem_of_getElem? hq)) hS hown (hts _ (vg_wd_in hlk.2)) (fun _ h9 => h9) hdg (kK _ _ _ _ _ _ h hl hP hS)
      · exact h.elim
    · cases hlk
  | iaload =>
    have hln : len = 1 := hln
    subst hln
    simp only [vg_ex] at h
    split at h
    · rename_i i r st
      split at h
      · rename_i n rs hr
        have he : (vg_cw G.2.1 G.2.2 σ 0 sh)[r]? = some (G.2.2 r, .inl (G.2.1 0, n, .inl (σ.1 r))) := by
          rw [vg_cw_at, ← vg_nth_eq, hr]
          simp [vg_ce]
        exact va_iald hx hb hE.1 hP r 0 he rfl h.1.in hdg (kK _ _ _ _ _ _ (h.2 _ rfl) hl hP hS)
      · split at h
        · rename_i n f hf
          exact va_ti hx hb (hE.2.2.1 r n f hf) hS h.1.in rfl hdg (kK _ _ _ _ _ _ (h.2 _ rfl) hl hP hS)
        · exact h.elim
      · exact h.elim
    · exact h.elim
  | laload =>
    have hln : len = 1 := hln
    subst hln
    simp only [vg_ex] at h
    split at h
    · rename_i i r st
      split at h
      · rename_i n rs hr
        have he : (vg_cw G.2.1 G.2.2 σ 0 sh)[r]? = some (G.2.2 r, .inl (G.2.1 1, n, .inr (.inl (σ.2 r)))) := by
          rw [vg_cw_at, ← vg_nth_eq, hr]
          simp [vg_ce]
        exact va_lald hx hb hE.1 hP r 1 he rfl h.1.in hdg (kK _ _ _ _ _ _ (h.2 _ rfl) hl hP hS)
      · exact h.elim
    · exact h.elim
  | aaload =>
    have hln : len = 1 := hln
    subst hln
    simp only [vg_ex] at h
    split at h
    · rename_i i r st
      split at h
      · rename_i t n rs hr
        have he : (vg_cw G.2.1 G.2.2 σ 0 sh)[r]? = some (G.2.2 r, .inl (G.2.1 (t + 2), n, .inr (.inr (.inr (.inr (fun j => (rs[j]?).map G.2.2)))))) := by
          rw [vg_cw_at, ← vg_nth_eq, hr]
          simp [vg_ce]
        have hn : n ≤ rs.length := Nat.le_of_ble_eq_true h.1
        have hin := h.2.1.in
        obtain ⟨h1, h2⟩ := h.2.1
        have hlt : i.toInt.toNat < rs.length := by omega
        have hkk : rs[i.toNatClampNeg]? = some (rs[i.toInt.toNat]'hlt) := List.getElem?_eq_getElem hlt
        have hgo := vg_al_go rs 0 h.2.2 i.toInt.toNat _ (by omega) (List.getElem?_eq_getElem hlt)
        have hty : t = 0 ∨ t = 1 := hsh r t n rs hr
        rcases hty with rfl | rfl
        · refine va_aldq (C := "NoiseShaper$Fold") hx hb hE.1 hP r 2 he rfl hin hdg ?_
          simp only [hkk]
          exact kK _ _ _ _ _ _ hgo hl hP hS
        · refine va_aldq (C := "NoiseShaper$Latest") hx hb hE.1 hP r 3 he rfl hin hdg ?_
          simp only [hkk]
          exact kK _ _ _ _ _ _ hgo hl hP hS
      · exact h.elim
    · exact h.elim
  | iastore =>
    have hln : len = 1 := hln
    subst hln
    simp only [vg_ex] at h
    split at h
    · rename_i x i r st
      split at h
      · rename_i n rs hr
        have hr2 : sh[r]? = some (.inl (0, n, rs)) := by rw [← vg_nth_eq]; exact hr
        have he : (vg_cw G.2.1 G.2.2 σ 0 sh)[r]? = some (G.2.2 r, .inl (G.2.1 0, n, .inl (σ.1 r))) := by
          rw [vg_cw_at, hr2]
          simp [vg_ce]
        refine va_iast hx hb hE.1 hP (vg_cw_D G.2.1 G.2.2 σ sh hap) hS r 0 he rfl h.1.in hdg (fun H1 locs1 hP1 hD1 hS1 => kK _ _ _ _ _ _ (h.2 _ rfl) hl ?_ hS1)
        have := vg_cw_set1 G.2.1 G.2.2 σ sh r (.inl (0, n, rs)) (upd (σ.1 r) i.toNatClampNeg x) hr2
        simp only [vg_ce] at this
        rw [this] at hP1
        exact hP1
      · exact h.elim
    · exact h.elim
  | lastore =>
    have hln : len = 1 := hln
    subst hln
    simp only [vg_ex] at h
    split at h
    · rename_i x i r st
      split at h
      · rename_i n rs hr
        have hr2 : sh[r]? = some (.inl (1, n, rs)) := by rw [← vg_nth_eq]; exact hr
        have he : (vg_cw G.2.1 G.2.2 σ 0 sh)[r]? = some (G.2.2 r, .inl (G.2.1 1, n, .inr (.inl (σ.2 r)))) := by
          rw [vg_cw_at, hr2]
          simp [vg_ce]
        refine va_last hx hb hE.1 hP (vg_cw_D G.2.1 G.2.2 σ sh hap) hS r 1 he rfl h.1.in hdg (fun H1 locs1 hP1 hD1 hS1 => kK _ _ _ _ _ _ (h.2 _ rfl) hl ?_ hS1)
        have := vg_cw_set2 G.2.1 G.2.2 σ sh r (.inl (1, n, rs)) (vp_updL (σ.2 r) i.toNatClampNeg x) hr2
        simp only [vg_ce] at this
        rw [this] at hP1
        exact hP1
      · exact h.elim
    · exact h.elim
  | arraylength =>
    have hln : len = 1 := hln
    subst hln
    simp only [vg_ex] at h
    split at h
    · rename_i r st
      split at h
      · rename_i t n rs hr
        match t, hr with
        | 0, hr =>
          have he : (vg_cw G.2.1 G.2.2 σ 0 sh)[r]? = some (G.2.2 r, .inl (G.2.1 0, n, .inl (σ.1 r))) := by
            rw [vg_cw_at, ← vg_nth_eq, hr]
            simp [vg_ce]
          exact va_alen hx hb hE.1 hP r 0 he (ty := .int) rfl rfl hdg (kK _ _ _ _ _ _ h hl hP hS)
        | 1, hr =>
          have he : (vg_cw G.2.1 G.2.2 σ 0 sh)[r]? = some (G.2.2 r, .inl (G.2.1 1, n, .inr (.inl (σ.2 r)))) := by
            rw [vg_cw_at, ← vg_nth_eq, hr]
            simp [vg_ce]
          exact va_alen hx hb hE.1 hP r 1 he (ty := .long) rfl rfl hdg (kK _ _ _ _ _ _ h hl hP hS)
        | t + 2, hr =>
          have he : (vg_cw G.2.1 G.2.2 σ 0 sh)[r]? = some (G.2.2 r, .inl (G.2.1 (t + 2), n, .inr (.inr (.inr (.inr (fun j => (rs[j]?).map G.2.2)))))) := by
            rw [vg_cw_at, ← vg_nth_eq, hr]
            simp [vg_ce]
          rcases hsh r t n rs hr with rfl | rfl
          · exact va_alen hx hb hE.1 hP r 2 he (ty := .object "NoiseShaper$Fold") rfl rfl hdg (kK _ _ _ _ _ _ h hl hP hS)
          · exact va_alen hx hb hE.1 hP r 3 he (ty := .object "NoiseShaper$Latest") rfl rfl hdg (kK _ _ _ _ _ _ h hl hP hS)
      · split at h
        · rename_i n f hf
          exact va_tlen hx hb (hE.2.2.1 r n f hf) hS rfl hdg (kK _ _ _ _ _ _ h hl hP hS)
        · exact h.elim
      · exact h.elim
    · exact h.elim
  | invokevirtual i =>
    have hln : len = 3 := hln
    subst hln
    simp only [vg_ex] at h
    split at h
    · rename_i r o rest hr hd
      split at h
      · rename_i ci ks ho
        split at h
        · rename_i hci hn
          exact vg_goV (rt := rt) X hdg hlk hl hP hS hr hd ho hci hn h (fun st σ H locs hk hP hS => kK _ _ _ _ _ _ hk hl hP hS)
        · exact h.elim
      · exact h.elim
    · exact h.elim
  | invokestatic i =>
    have hln : len = 3 := hln
    subst hln
    simp only [vg_ex] at h
    split at h
    · simp only [vg_lks, Bool.and_eq_true] at hlk
      split at h
      · rename_i n dp kd sp ks rest
        split at h
        · rename_i n0 r0 n1 r1 hs hdd
          obtain ⟨h0, h1, h2, h3, h4, h5, h6⟩ := h
          obtain ⟨g1, g2, g3, g4, g5⟩ := hcp hlk.1
          have hd2 : sh[kd]? = some (.inl (0, n1, r1)) := by rw [← vg_nth_eq]; exact hdd
          have he0 : (vg_cw G.2.1 G.2.2 σ 0 sh)[ks]? = some (G.2.2 ks, .inl (G.2.1 0, n0, .inl (σ.1 ks))) := by
            rw [vg_cw_at, ← vg_nth_eq, hs]
            simp [vg_ce]
          have he1 : (vg_cw G.2.1 G.2.2 σ 0 sh)[kd]? = some (G.2.2 kd, .inl (G.2.1 0, n1, .inl (σ.1 kd))) := by
            rw [vg_cw_at, hd2]
            simp [vg_ce]
          refine va_copyi hx hb (hml.trans hl.1.1.symm) hown (hts _ (vg_wd_in hlk.2)) g3 g4 g5 hE.1 hP (vg_cw_D G.2.1 G.2.2 σ sh hap) hS ks kd 0 0 he0 he1 rfl rfl rfl (vg_nn h1) (vg_nn h2) (vg_nn h3) (by rw [vg_clamp, vg_clamp]; omega) (by rw [vg_clamp, vg_clamp]; omega) (fun i hi => rfl) g1 (by rw [vg_cat_eq]; omega) hdg (fun H1 locs1 hP1 hD1 hS1 => kK _ _ _ _ _ _ (h6 _ rfl) hl ?_ hS1)
          have := vg_cw_set1 G.2.1 G.2.2 σ sh kd (.inl (0, n1, r1)) (va_cpy (σ.1 ks) (σ.1 kd) sp.toNatClampNeg dp.toNatClampNeg n.toNatClampNeg) hd2
          simp only [vg_ce] at this
          rw [this] at hP1
          exact hP1
        · exact h.elim
      · exact h.elim
    · rename_i hb3
      split at h
      · rename_i r hr hn
        exact vg_goS (rt := rt) X hdg hb3 hlk hl hP hS hr hn h (fun st σ H locs hk hP hS => kK _ _ _ _ _ _ hk hl hP hS)
      · exact h.elim
  | ireturn =>
    have hln : len = 1 := hln
    subst hln
    simp only [vg_ex] at h
    split at h
    · rename_i x
      exact kR (some (.int x)) _ _ _ _ hok trivial h hl hP hS
    · rename_i x
      exact kR (some (.int x)) _ _ _ _ hok h.1 h.2 hl hP hS
    · exact h.elim
  | lreturn =>
    have hln : len = 1 := hln
    subst hln
    simp only [vg_ex] at h
    split at h
    · rename_i x
      exact kR (some (.long x)) _ _ _ _ hok trivial h hl hP hS
    · exact h.elim
  | areturn =>
    have hln : len = 1 := hln
    subst hln
    simp only [vg_ex] at h
    split at h
    · rename_i x
      exact kR (some (.ref x)) _ _ _ _ hok trivial h hl hP hS
    · exact h.elim
  | return_ =>
    have hln : len = 1 := hln
    subst hln
    simp only [vg_ex] at h
    split at h
    · exact kR none _ _ _ _ hok trivial h hl hP hS
    · exact h.elim
  | _ => exact False.elim h
end VGS
end
section
/-! from a walk to a contract -/
theorem vg_chain_tl {q : vg_I} {r : List vg_I} (h : vg_chain (q :: r) = true) : vg_chain r = true := by
  simp only [vg_chain, Bool.and_eq_true] at h
  exact h.2
theorem vg_chain_hd {q q2 : vg_I} {r : List vg_I} (h : vg_chain (q :: q2 :: r) = true) : q2.1 = q.1 + q.2.2.1 := by
  simp only [vg_chain, Bool.and_eq_true] at h
  exact (Nat.eq_of_beq_eq_true h.1).symm
theorem vg_find_good (f : vg_I → Bool) : ∀ (cd : List vg_I) (t : Nat), cd.all f = true → vg_chain cd = true → (vg_find cd t).all f = true ∧ vg_chain (vg_find cd t) = true ∧ ∀ q r, vg_find cd t = q :: r → q.1 = t
  | [], t, h1, h2 => ⟨rfl, rfl, fun q r h => by cases h⟩
  | q :: r, t, h1, h2 => by
    unfold vg_find
    split
    · rename_i hb
      exact ⟨h1, h2, fun q' r' h => by cases h; exact Nat.eq_of_beq_eq_true hb⟩
    · simp only [List.all_cons, Bool.and_eq_true] at h1
      exact vg_find_good f r t h1.2 (vg_chain_tl h2)
section VGM
variable {p : Program} {l : Launch} {e : Env} {R : Room} {s : State} {m : MethodId} {args : Array Value} {below : List Frame} {meth : Method} {c : Code} {cells slots : Nat} {Q : State → Prop}
variable {own : String} {cc : ByteArray} {nL : Nat} {G : vg_G} {sh : List vg_C} {ro : Nat → Option (Nat × (Nat → Int32))} {cs : List vg_R} {cp : Bool} {rt : Option FieldType} {po : Option Value → vg_S → Prop} {I : Nat → Option vg_V} {cd : List vg_I}
/-- a walk that may end at cuts -/
theorem vg_walk (X : vg_X p l R s m args c cells slots own cc nL G sh ro cs cp) (hsh : ∀ r t n rs, vg_nth sh r = some (.inl (t + 2, n, rs)) → t = 0 ∨ t = 1) (hcd : cd.all (vg_ok own cc cs rt cp) = true) (hch : vg_chain cd = true) (bd : Option Nat)
    (kH : ∀ h iv L σ H locs ls, I h = some iv → iv.2.1 L σ → vg_bd bd (iv.2.2 L σ) → vg_lr G.2.2 ls nL L → vg_P G sh σ H → va_S (vg_A G.2.2 sh.length) s.heap H locs → W p l e R s m args below meth c H locs cells slots Q (F0 m h ls []))
    (kR : ∀ pc op len a b c0 z L v σ H locs ls, vg_ok own cc cs rt cp (pc, op, len, a, b, c0, z) = true → vg_isret op z v → po v σ → vg_lr G.2.2 ls nL L → vg_P G sh σ H → va_S (vg_A G.2.2 sh.length) s.heap H locs → W p l e R s m args below meth c H locs cells slots Q (F0 m pc ls ((v.map (vg_cv G.2.2)).toList))) :
    ∀ (n : Nat) (fl : Bool) (q : vg_I) (nx : List vg_I) (L : vg_L) (st : List Value) (σ : vg_S) (H : Heap) (locs : List Loc) (ls : Array Slot), (q :: nx).all (vg_ok own cc cs rt cp) = true → vg_chain (q :: nx) = true → vg sh ro cs po I cd bd n fl (q :: nx) L st σ → vg_lr G.2.2 ls nL L → vg_P G sh σ H → va_S (vg_A G.2.2 sh.length) s.heap H locs → W p l e R s m args below meth c H locs cells slots Q (F0 m q.1 ls (st.map (vg_cv G.2.2))) := by
  intro n
  induction n with
  | zero => intro fl q nx L st σ H locs ls _ _ h; exact (h : False).elim
  | succ n ih =>
    intro fl q nx L st σ H locs ls h1 h2 h hl hP hS
    have main : vg_ex sh ro cs po (fun L st σ => vg sh ro cs po I cd bd n false nx L st σ) (fun L st σ t => vg sh ro cs po I cd bd n false (vg_find cd t) L st σ) q L st σ → W p l e R s m args below meth c H locs cells slots Q (F0 m q.1 ls (st.map (vg_cv G.2.2))) := by
      intro h
      obtain ⟨pc, op, len, a, b, c0, z⟩ := q
      have h1' := h1
      simp only [List.all_cons, Bool.and_eq_true] at h1'
      refine vg_ex_sound X hsh h1'.1 hl hP hS h (fun L st σ H locs ls hk hl hP hS => ?_) (fun L st σ t H locs ls hk hl hP hS => ?_) (fun v σ H locs ls => kR pc op len a b c0 z L v σ H locs ls)
      · cases nx with
        | nil => cases n <;> exact (hk : False).elim
        | cons q2 r =>
          have he := vg_chain_hd h2
          have := ih false q2 r L st σ H locs ls h1'.2 (vg_chain_tl h2) hk hl hP hS
          rw [he] at this
          exact this
      · have hf := vg_find_good _ cd t hcd hch
        cases hv : vg_find cd t with
        | nil => rw [hv] at hk; cases n <;> exact (hk : False).elim
        | cons q2 r =>
          rw [hv] at hk hf
          have := ih false q2 r L st σ H locs ls hf.1 hf.2.1 hk hl hP hS
          rw [hf.2.2 q2 r rfl] at this
          exact this
    cases fl with
    | true => exact main h
    | false =>
      have h : (match I q.1 with
        | none => vg_ex sh ro cs po (fun L st σ => vg sh ro cs po I cd bd n false nx L st σ) (fun L st σ t => vg sh ro cs po I cd bd n false (vg_find cd t) L st σ) q L st σ
        | some iv => st = [] ∧ iv.2.1 (vg_mask iv.1 L) σ ∧ vg_bd bd (iv.2.2 (vg_mask iv.1 L) σ)) := h
      cases hi : I q.1 with
      | none => rw [hi] at h; exact main h
      | some iv =>
        rw [hi] at h
        obtain ⟨rfl, h3, h4⟩ := h
        exact kH q.1 iv (vg_mask iv.1 L) σ H locs ls hi h3 h4 (hl.mask _) hP hS
theorem vg_loops (X : vg_X p l R s m args c cells slots own cc nL G sh ro cs cp) (hsh : ∀ r t n rs, vg_nth sh r = some (.inl (t + 2, n, rs)) → t = 0 ∨ t = 1) (hcd : cd.all (vg_ok own cc cs rt cp) = true) (hch : vg_chain cd = true) (N : Nat)
    (hI : ∀ h iv, I h = some iv → ∀ L σ, iv.2.1 L σ → vg sh ro cs po I cd (some (iv.2.2 L σ)) N true (vg_find cd h) L [] σ)
    (kR : ∀ pc op len a b c0 z L v σ H locs ls, vg_ok own cc cs rt cp (pc, op, len, a, b, c0, z) = true → vg_isret op z v → po v σ → vg_lr G.2.2 ls nL L → vg_P G sh σ H → va_S (vg_A G.2.2 sh.length) s.heap H locs → W p l e R s m args below meth c H locs cells slots Q (F0 m pc ls ((v.map (vg_cv G.2.2)).toList))) :
    ∀ (k : Nat) h iv L σ H locs ls, I h = some iv → iv.2.1 L σ → iv.2.2 L σ ≤ k → vg_lr G.2.2 ls nL L → vg_P G sh σ H → va_S (vg_A G.2.2 sh.length) s.heap H locs → W p l e R s m args below meth c H locs cells slots Q (F0 m h ls []) := by
  intro k
  induction k using Nat.strongRecOn with
  | ind k ih =>
    intro h iv L σ H locs ls hi h3 hk hl hP hS
    have hw := hI h iv hi L σ h3
    have hf := vg_find_good _ cd h hcd hch
    cases hv : vg_find cd h with
    | nil => rw [hv] at hw; cases N <;> exact (hw : False).elim
    | cons q2 r =>
      rw [hv] at hw hf
      have := vg_walk (e := e) (below := below) (meth := meth) (Q := Q) X hsh hcd hch (some (iv.2.2 L σ)) (fun h' iv' L' σ' H' locs' ls' hi' h3' hb' hl' hP' hS' => ih (iv'.2.2 L' σ') (by have hb' : iv'.2.2 L' σ' < iv.2.2 L σ := hb'; omega) h' iv' L' σ' H' locs' ls' hi' h3' (Nat.le_refl _) hl' hP' hS') kR N true q2 r L [] σ H locs ls hf.1 hf.2.1 hw hl hP hS
      rw [hf.2.2 q2 r rfl] at this
      exact this
/-- a walk from any instruction -/
theorem vg_sound (X : vg_X p l R s m args c cells slots own cc nL G sh ro cs cp) (hsh : ∀ r t n rs, vg_nth sh r = some (.inl (t + 2, n, rs)) → t = 0 ∨ t = 1) (hcd : cd.all (vg_ok own cc cs rt cp) = true) (hch : vg_chain cd = true) (N : Nat)
    (hI : ∀ h iv, I h = some iv → ∀ L σ, iv.2.1 L σ → vg sh ro cs po I cd (some (iv.2.2 L σ)) N true (vg_find cd h) L [] σ)
    (kR : ∀ pc op len a b c0 z L v σ H locs ls, vg_ok own cc cs rt cp (pc, op, len, a, b, c0, z) = true → vg_isret op z v → po v σ → vg_lr G.2.2 ls nL L → vg_P G sh σ H → va_S (vg_A G.2.2 sh.length) s.heap H locs → W p l e R s m args below meth c H locs cells slots Q (F0 m pc ls ((v.map (vg_cv G.2.2)).toList)))
    (n : Nat) (fl : Bool) (q : vg_I) (nx : List vg_I) (L : vg_L) (st : List Value) (σ : vg_S) (H : Heap) (locs : List Loc) (ls : Array Slot) (h1 : (q :: nx).all (vg_ok own cc cs rt cp) = true) (h2 : vg_chain (q :: nx) = true) (h : vg sh ro cs po I cd none n fl (q :: nx) L st σ) (hl : vg_lr G.2.2 ls nL L) (hP : vg_P G sh σ H) (hS : va_S (vg_A G.2.2 sh.length) s.heap H locs) : W p l e R s m args below meth c H locs cells slots Q (F0 m q.1 ls (st.map (vg_cv G.2.2))) :=
  vg_walk X hsh hcd hch none (fun h' iv' L' σ' H' locs' ls' hi' h3' _ hl' hP' hS' => vg_loops X hsh hcd hch N hI kR _ h' iv' L' σ' H' locs' ls' hi' h3' (Nat.le_refl _) hl' hP' hS') kR n fl q nx L st σ H locs ls h1 h2 h hl hP hS
end VGM
theorem vg_sl_len (ad : Nat → Nat) : ∀ as : List Value, (lg_sl (as.map (vg_cv ad))).length = vg_cat as
  | [] => rfl
  | v :: r => by
    have h := vg_sl_len ad r
    have hv := vg_cv_cat ad v
    simp only [List.map_cons, vg_cat, lg_sl, List.flatMap_cons, List.length_append] at h ⊢
    rw [h]
    congr 1
    rw [← hv]
    generalize vg_cv ad v = w
    cases w <;> simp [Value.category]
def vg_rk (rt : Option FieldType) : Nat := match rt with
  | none => 0
  | some .int => 1
  | some .boolean => 1
  | some .long => 2
  | _ => 3
def vg_cpw : List Cond := [.native arraycopyName, .static arraycopyName, .initialized "java/lang/System"]
set_option maxHeartbeats 1000000 in
/-- A METHOD: its code walked gives its contract -/
theorem vg_meth {l : Launch} {G : vg_G} {sh : List vg_C} (hap : ∀ i j, i < sh.length → j < sh.length → G.2.2 i = G.2.2 j → i = j) (hsh : ∀ r t n rs, vg_nth sh r = some (.inl (t + 2, n, rs)) → t = 0 ∨ t = 1) (r : vg_R) (hrok : vg_rok r) (hrk : r.1.2.2.2.2.2.2.1 = vg_rk r.1.2.2.2.1) (hrf : r.1.2.2.2.1 = some (.array .int) → ∀ as σ k σ', r.2.2 as σ (some (.ref k)) σ' → k ∈ r.1.2.2.2.2.2.2.2.1)
    (cd : List vg_I) (cs : List vg_R) (cp : Bool) (hcd : cd.all (vg_ok r.1.1.cls r.1.2.1 cs r.1.2.2.2.1 cp) = true) (hch : vg_chain cd = true) (hc0 : ∃ q nx, cd = q :: nx ∧ q.1 = 0) (hcs : ∀ x ∈ cs, vg_Ct l G sh x ∧ x.1.2.2.2.2.1 + 1 ≤ r.1.2.2.2.2.1 ∧ 8 + (x.1.2.2.1 + 11) + x.1.2.2.2.2.2.1 ≤ r.1.2.2.2.2.2.1) (hcp : cp = true → (1 ≤ r.1.2.2.2.2.1 ∧ 8 + (nativeFrameWords "java/lang/System" "arraycopy" 5 + 11) ≤ r.1.2.2.2.2.2.1) ∧ ∀ w ∈ vg_cpw, w ∈ vg_GW)
    (N : Nat) (h0 : ∀ as σ, r.2.1 as σ → vg_cat as ≤ r.1.2.2.1 ∧ ∃ Il : List (Nat × vg_V), vg sh vg_ro0 cs (r.2.2 as σ) (vg_lkp Il) cd none N true cd (vg_pad r.1.2.2.1 (vg_l0 as)) [] σ ∧ ∀ q ∈ Il, ∀ L σ', q.2.2.1 L σ' → vg sh vg_ro0 cs (r.2.2 as σ) (vg_lkp Il) cd (some (q.2.2.2 L σ')) N true (vg_find cd q.1) L [] σ') : vg_Ct l G sh r := by
  refine ⟨hrok, fun as σ hpre => ?_⟩
  obtain ⟨hcode, hini, hnm, hpl, hst⟩ := id hrok
  obtain ⟨hsz, Il, hw, hI0⟩ := h0 as σ hpre
  have hI := fun h iv (hh : vg_lkp Il h = some iv) => hI0 (h, iv) (vg_lkp_in Il h iv hh)
  refine va_MetF (cc := r.1.2.1) (maxL := r.1.2.2.1) (ret := r.1.2.2.2.1) hpl rfl ?_
  intro p e s m args below meth c s₁ B hml hv
  obtain ⟨rfl, hP, hE⟩ := hv
  have hts0 := atoms_spec (ws := Cond.code r.1.1 r.1.2.1 r.1.2.2.1 r.1.2.2.2.1 :: vg_GW) B.pre
  have hts : ∀ w ∈ vg_GW, w.before _ s = true := fun w hw => hts0 w (List.mem_cons_of_mem _ hw)
  have hown : s.vm.findClass r.1.1.cls = some m.cls := findClass_of_methodNamed B.named
  have hlocks := B.notSynchronized
  have hret := B.returns
  have X : vg_X p l (headSpec (Cond.code r.1.1 r.1.2.1 r.1.2.2.1 r.1.2.2.2.1 :: vg_GW) { frames := r.1.2.2.2.2.1, cells := 0, slots := 0, locals := r.1.2.2.2.2.2.1 }).room s m (as.map (vg_cv G.2.2)).toArray c 0 0 r.1.1.cls r.1.2.1 r.1.2.2.1 G sh vg_ro0 cs cp :=
    ⟨B.exec, B.bytes, hml, hown, hts, hap, hE, fun _ _ h => h, hcs, fun q => ⟨(hcp q).1.1, (hcp q).1.2, hts _ ((hcp q).2 _ (by simp [vg_cpw])), hts _ ((hcp q).2 _ (by simp [vg_cpw])), hts _ ((hcp q).2 _ (by simp [vg_cpw]))⟩, Nat.le_refl _, Nat.le_refl _⟩
  rw [lg_entry_eq]
  have hl := vg_entry G.2.2 as r.1.2.2.1 (by rw [vg_sl_len]; exact hsz)
  obtain ⟨q, nx, hq, hq0⟩ := hc0
  have fin : ∀ pc op len a b c0 z L v σ' H locs ls, vg_ok r.1.1.cls r.1.2.1 cs r.1.2.2.2.1 cp (pc, op, len, a, b, c0, z) = true → vg_isret op z v → r.2.2 as σ v σ' → vg_lr G.2.2 ls r.1.2.2.1 L → vg_P G sh σ' H → va_S (vg_A G.2.2 sh.length) s.heap H locs → W p l e (headSpec (Cond.code r.1.1 r.1.2.1 r.1.2.2.1 r.1.2.2.2.1 :: vg_GW) { frames := r.1.2.2.2.2.1, cells := 0, slots := 0, locals := r.1.2.2.2.2.2.1 }).room s m (as.map (vg_cv G.2.2)).toArray below meth c H locs 0 0 (MQ below (vg_Q G sh r as σ) (as.map (vg_cv G.2.2)).toArray s 0 0 (vg_A G.2.2 sh.length)) (F0 m pc ls ((v.map (vg_cv G.2.2)).toList)) := by
    intro pc op len a b c0 z L v σ' H locs ls hok hir hpo hl hP hS
    obtain ⟨hdg, hln, hlk, -⟩ := vg_ok_spec hok
    have hq : ∀ rf : vg_rf r v, ∀ t : State, t.heap = H → s.WarmedH t.vm → vg_Q G sh r as σ (as.map (vg_cv G.2.2)).toArray s (.returned (v.map (vg_cv G.2.2))) t := fun rf t ht _ => ⟨⟨v, σ', rfl, rf, hpo, by rw [ht]; exact hP⟩, hS.F ht⟩
    unfold vg_isret at hir
    split at hir
    · have hrt : r.1.2.2.2.1 = some .int := of_decide_eq_true hlk
      have hln : len = 1 := hln
      subst hln
      exact W.zret B.exec B.bytes (hret.trans hrt) rfl (hq (by unfold vg_rf; rw [hrk, hrt]; exact ⟨_, rfl⟩)) hS.2.2 hdg
    · have hrt : r.1.2.2.2.1 = some .boolean := of_decide_eq_true hlk
      have hln : len = 1 := hln
      subst hln
      refine W.zret B.exec B.bytes (hret.trans hrt) ?_ (hq (by unfold vg_rf; rw [hrk, hrt]; exact ⟨_, rfl⟩)) hS.2.2 hdg
      rcases hir with rfl | rfl <;> rfl
    · have hrt : r.1.2.2.2.1 = some .long := of_decide_eq_true hlk
      have hln : len = 1 := hln
      subst hln
      exact W.lret B.exec B.bytes (hret.trans hrt) (hq (by unfold vg_rf; rw [hrk, hrt]; exact ⟨_, rfl⟩)) hS.2.2 hdg
    · have hrt : r.1.2.2.2.1 = some (.array .int) := of_decide_eq_true hlk
      have hln : len = 1 := hln
      subst hln
      exact W.aret B.exec B.bytes (hret.trans hrt) (Or.inr ⟨_, rfl⟩) (Or.inr ⟨_, rfl⟩) (hq (by unfold vg_rf; rw [hrk, hrt]; exact ⟨_, hrf hrt _ _ _ _ hpo, rfl⟩)) hS.2.2 hdg
    · have hrt : r.1.2.2.2.1 = none := of_decide_eq_true hlk
      have hln : len = 1 := hln
      subst hln
      exact W.vret B.exec B.bytes (hret.trans hrt) (hq (by unfold vg_rf; rw [hrk, hrt]; rfl)) hS.2.2 hdg
    · exact hir.elim
  subst hq
  have := vg_sound (e := e) (below := below) (meth := meth) X hsh hcd hch N hI fin N true q nx _ [] σ s.heap [] _ hcd hch hw hl hP va_S.rf
  rw [hq0] at this
  exact this
/-- the machine has rows of its own only for Math's members on floats and doubles -/
theorem vg_mathRows : (Jvm.natives.all fun r => r.cls != "java/lang/Math" || ["(D)D", "(DD)D", "(DDD)D", "(F)F", "(FF)F", "(FFF)F"].contains r.desc) = true := by decide +kernel
theorem vg_mathPlain {x : MethodName} (hc : x.cls = "java/lang/Math") (hd : ["(D)D", "(DD)D", "(DDD)D", "(F)F", "(FF)F", "(FFF)F"].contains x.desc = false) : plainFor x = true := by
  unfold plainFor
  rw [Bool.or_eq_true]; right
  rw [Option.isNone_iff_eq_none, NativeRow.find?, List.find?_eq_none]
  intro r hr h
  have := List.all_eq_true.mp vg_mathRows r hr
  simp only [Bool.and_eq_true, beq_iff_eq] at h
  rw [h.1.2, h.2, hc, hd] at this
  simp at this
end
section
/-! the places of the class's cells (0 to 54) and the reference's (55 to 67); what always holds; what most calls keep -/
def vg_sh : List vg_C := [.inr (10, [0, 0, 0, 3, 5, 9, 14, 18, 20, 21, 22, 24, 28, 33]), .inr (7, [0, 0, 0, 0, 4]), .inl (0, 16, []), .inr (5, [6, 7, 8, 0, 0, 0, 0, 0, 0, 1, 1, 1, 1, 1]), .inr (6, [0, 0, 0, 0, 0, 0, 0, 0]), .inl (0, 4, []), .inl (0, 6, []), .inr (2, [0, 0, 0, 0, 10, 11, 12, 13, 1, 1, 1]), .inl (0, 16, []), .inl (0, 16, []), .inl (0, 16, []), .inl (0, 16, []), .inr (1, [0, 0, 0, 0, 15, 16, 0, 0, 1, 17]), .inl (1, 5, []), .inl (1, 5, []), .inl (0, 76, []), .inr (8, [19, 0]), .inl (0, 7, []), .inl (2, 3, [35, 37, 39]), .inl (3, 7, [41, 43, 45, 47, 49, 51, 53]), .inr (0, [23, 0]), .inl (0, 12, []), .inr (5, [25, 26, 27, 0, 0, 0, 0, 0, 0, 1, 1, 1, 1, 1]), .inr (6, [0, 0, 0, 0, 0, 0, 0, 0]), .inl (0, 4, []), .inl (0, 6, []), .inr (2, [0, 0, 0, 0, 29, 30, 31, 32, 1, 1, 1]), .inl (0, 16, []), .inl (0, 16, []), .inl (0, 16, []), .inl (0, 16, []), .inr (9, [34, 35, 36, 0, 0, 0]), .inl (0, 1000, []), .inl (0, 10010, []), .inl (0, 2048, []), .inr (3, [0, 38, 0, 0]), .inl (0, 16, []), .inr (3, [0, 40, 0, 0]), .inl (0, 16, []), .inr (3, [0, 42, 0, 0]), .inl (0, 16, []), .inr (4, [44, 0, 0, 0]), .inl (0, 64, []), .inr (4, [46, 0, 0, 0]), .inl (0, 64, []), .inr (4, [48, 0, 0, 0]), .inl (0, 64, []), .inr (4, [50, 0, 0, 0]), .inl (0, 64, []), .inr (4, [52, 0, 0, 0]), .inl (0, 64, []), .inr (4, [54, 0, 0, 0]), .inl (0, 64, []), .inr (4, [56, 0, 0, 0]), .inl (0, 64, []), .inr (11, [58, 59, 0, 0, 0, 0, 0, 0, 0, 0, 0, 0, 0, 0, 0, 0, 0, 0, 0, 0, 0, 0, 60, 61, 62, 63, 64, 65, 66, 67, 0, 0, 68, 0, 69]), .inl (1, 481, []), .inl (1, 481, []), .inl (0, 16, []), .inl (0, 16, []), .inl (0, 3, []), .inl (0, 4, []), .inl (0, 80, []), .inl (0, 80, []), .inl (1, 17017, []), .inl (0, 1000, []), .inl (0, 13, []), .inl (1, 481, [])]
def vg_shb : List vg_C → Bool
  | [] => true
  | .inl (t, _, _) :: r => Nat.ble t 3 && vg_shb r
  | .inr _ :: r => vg_shb r
theorem vg_shb_go : ∀ (sh : List vg_C), vg_shb sh = true → ∀ r t n rs, vg_nth sh r = some (.inl (t + 2, n, rs)) → t = 0 ∨ t = 1
  | [], _, r, t, n, rs, h => by cases h
  | .inl (t0, n0, r0) :: l, hb, 0, t, n, rs, h => by
    simp only [vg_shb, Bool.and_eq_true] at hb
    have := Nat.le_of_ble_eq_true hb.1
    simp only [vg_nth, Option.some.injEq, Sum.inl.injEq, Prod.mk.injEq] at h
    omega
  | .inr x :: l, hb, 0, t, n, rs, h => by cases h
  | .inl (t0, n0, r0) :: l, hb, r + 1, t, n, rs, h => by
    simp only [vg_shb, Bool.and_eq_true] at hb
    exact vg_shb_go l hb.2 r t n rs h
  | .inr x :: l, hb, r + 1, t, n, rs, h => vg_shb_go l hb r t n rs h
theorem vg_sh_ok : ∀ r t n rs, vg_nth vg_sh r = some (.inl (t + 2, n, rs)) → t = 0 ∨ t = 1 := vg_shb_go vg_sh (by decide +kernel)
/-! numbers -/
theorem vg_add {x y v : Int32} (e : v = x + y) (h1 : -2147483648 ≤ x.toInt + y.toInt) (h2 : x.toInt + y.toInt ≤ 2147483647) : v.toInt = x.toInt + y.toInt := by
  rw [e, Int32.toInt_add]
  simp only [Int.bmod]
  omega
theorem vg_sub {x y v : Int32} (e : v = x - y) (h1 : -2147483648 ≤ x.toInt - y.toInt) (h2 : x.toInt - y.toInt ≤ 2147483647) : v.toInt = x.toInt - y.toInt := by
  rw [e, Int32.toInt_sub]
  simp only [Int.bmod]
  omega
theorem vg_mul {x y v : Int32} (e : v = x * y) (h1 : -2147483648 ≤ x.toInt * y.toInt) (h2 : x.toInt * y.toInt ≤ 2147483647) : v.toInt = x.toInt * y.toInt := by
  rw [e, Int32.toInt_mul]
  generalize x.toInt * y.toInt = z at h1 h2
  simp only [Int.bmod]
  omega
theorem vg_and {x y v : Int32} (e : v = x &&& y) (h : 0 ≤ y.toInt) : 0 ≤ v.toInt ∧ v.toInt ≤ y.toInt := by
  subst e
  have hy : y.toBitVec.msb = false := by
    rw [BitVec.msb_eq_false_iff_two_mul_lt]
    have h2 : y.toInt = y.toBitVec.toInt := rfl
    rw [h2, BitVec.toInt_eq_toNat_cond] at h
    split at h
    · assumption
    · have := y.toBitVec.isLt
      omega
  have hle : (x &&& y).toBitVec.toNat ≤ y.toBitVec.toNat := by
    show (x.toBitVec &&& y.toBitVec).toNat ≤ _
    rw [BitVec.toNat_and]
    exact Nat.and_le_right
  have hz : (x &&& y).toBitVec.msb = false := by
    rw [BitVec.msb_eq_false_iff_two_mul_lt] at hy ⊢
    omega
  have e1 : (x &&& y).toInt = ((x &&& y).toBitVec.toNat : Int) := by
    show (x &&& y).toBitVec.toInt = _
    exact BitVec.toInt_eq_toNat_of_msb hz
  have e2 : y.toInt = (y.toBitVec.toNat : Int) := by
    show y.toBitVec.toInt = _
    exact BitVec.toInt_eq_toNat_of_msb hy
  rw [e1, e2]
  omega
theorem vg_rng (x : Int32) : -2147483648 ≤ x.toInt ∧ x.toInt ≤ 2147483647 := by
  have h1 := Int32.le_toInt x
  have h2 := Int32.toInt_lt x
  omega
theorem vg_div {x y v : Int32} (e : v = x / y) (hx : 0 ≤ x.toInt) (hy : 0 < y.toInt) : v.toInt = x.toInt / y.toInt := by
  have h2 := vg_rng x
  rw [e, Int32.toInt_div, Int.tdiv_eq_ediv_of_nonneg hx]
  have h3 : x.toInt / y.toInt ≤ x.toInt := Int.ediv_le_self _ hx
  have h4 : 0 ≤ x.toInt / y.toInt := Int.ediv_nonneg hx (by omega)
  generalize x.toInt / y.toInt = z at h3 h4
  simp only [Int.bmod]
  omega
theorem vg_rem {x y v : Int32} (e : v = x - x / y * y) (hx : 0 ≤ x.toInt) (hy : 0 < y.toInt) : v.toInt = x.toInt % y.toInt ∧ 0 ≤ v.toInt ∧ v.toInt < y.toInt := by
  have h2 := vg_rng x
  have hd := vg_div (v := x / y) rfl hx hy
  have hem := Int.emod_add_mul_ediv x.toInt y.toInt
  have hm0 := Int.emod_nonneg x.toInt (by omega : y.toInt ≠ 0)
  have hm1 := Int.emod_lt_of_pos x.toInt hy
  have h5 : 0 ≤ x.toInt / y.toInt := Int.ediv_nonneg hx (by omega)
  have h6 : x.toInt / y.toInt * y.toInt = y.toInt * (x.toInt / y.toInt) := Int.mul_comm _ _
  have hp : 0 ≤ x.toInt / y.toInt * y.toInt := Int.mul_nonneg h5 (by omega)
  have hm := vg_mul (x := x / y) (y := y) (v := x / y * y) rfl (by rw [hd]; omega) (by rw [hd]; omega)
  rw [hd] at hm
  have hs := vg_sub (x := x) (y := x / y * y) (v := v) e (by rw [hm]; omega) (by rw [hm]; omega)
  rw [hs, hm]
  refine ⟨by omega, by omega, by omega⟩
theorem vg_l2i {x : Int64} {v : Int32} (e : v = x.toInt32) (h1 : -2147483648 ≤ x.toInt) (h2 : x.toInt ≤ 2147483647) : v.toInt = x.toInt := by
  rw [e, Int64.toInt_toInt32]
  simp only [Int.bmod]
  omega
theorem vg_i2l {x : Int32} {v : Int64} (e : v = x.toInt64) : v.toInt = x.toInt := by rw [e, Int32.toInt_toInt64]
theorem vg_ladd {x y v : Int64} (e : v = x + y) (h1 : -9223372036854775808 ≤ x.toInt + y.toInt) (h2 : x.toInt + y.toInt ≤ 9223372036854775807) : v.toInt = x.toInt + y.toInt := by
  rw [e, Int64.toInt_add]
  simp only [Int.bmod]
  omega
theorem vg_eqi {x y : Int32} (h : x.toInt = y.toInt) : x = y := Int32.toInt_inj.mp h
theorem vg_cn (x : Int32) : (x.toNatClampNeg : Int) = if 0 ≤ x.toInt then x.toInt else 0 := by
  have : x.toNatClampNeg = x.toInt.toNat := rfl
  split <;> omega
theorem vg_01 {x : Int32} (h1 : 0 ≤ x.toInt) (h2 : x.toInt ≤ 1) : x = 0 ∨ x = 1 := by
  rcases (show x.toInt = 0 ∨ x.toInt = 1 by omega) with h | h
  · exact Or.inl (vg_eqi (by rw [h]; rfl))
  · exact Or.inr (vg_eqi (by rw [h]; rfl))
theorem vg_of01 {x : Int32} (h : x = 0 ∨ x = 1) : 0 ≤ x.toInt ∧ x.toInt ≤ 1 := by
  rcases h with rfl | rfl <;> decide
def vg_cons : List (Nat × Nat × Int × Int) := [(0, 2, 0, 3), (1, 3, 1, 1000), (4, 1, 1, 4), (4, 2, 1, 5000), (4, 3, 2, 17), (4, 4, 1, 60000), (4, 5, 0, 1), (4, 6, 0, 5000), (23, 1, 1, 4), (23, 2, 1, 5000), (23, 3, 2, 17), (23, 4, 1, 60000), (23, 5, 0, 1), (23, 6, 0, 5000), (7, 0, 1, 16), (26, 0, 1, 16), (12, 0, 1, 5), (12, 1, 1, 16), (12, 2, 8, 32), (20, 1, 0, 12), (41, 2, 0, 48), (43, 2, 0, 48), (45, 2, 0, 48), (47, 2, 0, 48), (49, 2, 0, 48), (51, 2, 0, 48), (53, 2, 0, 48), (55, 6, 1, 1000), (55, 8, 1, 4), (55, 10, 2, 17), (55, 12, 0, 5000), (55, 16, 1, 5), (55, 17, 1, 16), (55, 20, 0, 3), (55, 33, 0, 12)]
/-- how many elements the reference has -/
def vg_me (σ : vg_S) : Int32 := if (σ.1 55 7).toInt = 2 then (σ.1 55 10 - (1 : Int32)) * (((1 : Int32) <<< (σ.1 55 8 &&& (31 : Int32))) - (1 : Int32)) else σ.1 55 10 - (1 : Int32)
def Iv (σ : vg_S) : Prop := (∀ q ∈ vg_cons, q.2.2.1 ≤ (σ.1 q.1 q.2.1).toInt ∧ (σ.1 q.1 q.2.1).toInt ≤ q.2.2.2) ∧ 1 ≤ (vg_me σ).toInt ∧ (vg_me σ).toInt ≤ 16
theorem Iv.at {σ : vg_S} (h : Iv σ) (n : Nat) {q : Nat × Nat × Int × Int} (hq : vg_nth vg_cons n = some q) : q.2.2.1 ≤ (σ.1 q.1 q.2.1).toInt ∧ (σ.1 q.1 q.2.1).toInt ≤ q.2.2.2 := h.1 q (by rw [vg_nth_eq] at hq; exact List.mem_of_getElem? hq)
/-- slots that no word speaks of -/
def vg_fr (k i : Nat) : Bool := vg_cons.all (fun q => !(Nat.beq q.1 k && Nat.beq q.2.1 i)) && !(Nat.beq k 55 && Nat.beq i 7)
/-- rows that no word speaks of -/
def vg_fa (k : Nat) : Bool := vg_cons.all (fun q => !(Nat.beq q.1 k)) && !(Nat.beq k 55)
theorem vg_me_eq {σ σ' : vg_S} (h7 : σ'.1 55 7 = σ.1 55 7) (h8 : σ'.1 55 8 = σ.1 55 8) (h10 : σ'.1 55 10 = σ.1 55 10) : vg_me σ' = vg_me σ := by
  unfold vg_me
  rw [h7, h8, h10]
theorem vg_beq {a b : Nat} (h : a ≠ b) : Nat.beq a b = false := by
  cases hb : Nat.beq a b with
  | false => rfl
  | true => exact (h (Nat.eq_of_beq_eq_true hb)).elim
theorem vg_u1_at {σ : vg_S} {k i : Nat} {x : Int32} {a b : Nat} (h : ¬ (a = k ∧ b = i)) : (vg_u1 σ k i x).1 a b = σ.1 a b := by
  simp only [vg_u1, vg_w1, upd]
  split
  · rename_i ha
    subst ha
    show (if b = i then x else σ.1 a b) = _
    rw [if_neg (fun hb => h ⟨rfl, hb⟩)]
  · rfl
theorem vg_u1_self {σ : vg_S} {k i : Nat} {x : Int32} : (vg_u1 σ k i x).1 k i = x := by simp [vg_u1, vg_w1, upd]
theorem vg_u2_at {σ : vg_S} {k i : Nat} {x : Int64} {a b : Nat} (h : ¬ (a = k ∧ b = i)) : (vg_u2 σ k i x).2 a b = σ.2 a b := by
  simp only [vg_u2, vg_w2, vp_updL]
  split
  · rename_i ha
    subst ha
    show (if b = i then x else σ.2 a b) = _
    rw [if_neg (fun hb => h ⟨rfl, hb⟩)]
  · rfl
theorem vg_u2_self {σ : vg_S} {k i : Nat} {x : Int64} : (vg_u2 σ k i x).2 k i = x := by simp [vg_u2, vg_w2, vp_updL]
theorem vg_u1_ne {σ : vg_S} {k i : Nat} {x : Int32} {a : Nat} (h : a ≠ k) : (vg_u1 σ k i x).1 a = σ.1 a := by simp only [vg_u1, vg_w1]; rw [if_neg h]
theorem vg_u2_1 {σ : vg_S} {k i : Nat} {x : Int64} : (vg_u2 σ k i x).1 = σ.1 := rfl
theorem vg_w1_at {σ : vg_S} {k : Nat} {f : Nat → Int32} {a : Nat} (h : a ≠ k) : (vg_w1 σ k f).1 a = σ.1 a := by simp only [vg_w1]; rw [if_neg h]
theorem Iv.of {σ σ' : vg_S} (h : Iv σ) (he : ∀ q ∈ vg_cons, σ'.1 q.1 q.2.1 = σ.1 q.1 q.2.1) (h7 : σ'.1 55 7 = σ.1 55 7) : Iv σ' := by
  refine ⟨fun q hq => by rw [he q hq]; exact h.1 q hq, ?_⟩
  rw [vg_me_eq h7 (he (55, 8, 1, 4) (by decide)) (he (55, 10, 2, 17) (by decide))]
  exact h.2
theorem Iv.u1 {σ σ' : vg_S} {k i : Nat} {x : Int32} (h : Iv σ) (e : σ' = vg_u1 σ k i x) (hf : vg_fr k i = true) : Iv σ' := by
  subst e
  simp only [vg_fr, Bool.and_eq_true, List.all_eq_true, Bool.not_eq_true', Bool.and_eq_false_iff] at hf
  refine h.of (fun q hq => vg_u1_at ?_) (vg_u1_at ?_)
  · rintro ⟨h1, h2⟩
    rcases hf.1 q hq with h3 | h3
    · rw [h1] at h3; simp at h3
    · rw [h2] at h3; simp at h3
  · rintro ⟨rfl, rfl⟩
    rcases hf.2 with h3 | h3 <;> simp at h3
theorem Iv.a1 {σ σ' : vg_S} {k i : Nat} {x : Int32} (h : Iv σ) (e : σ' = vg_u1 σ k i x) (hf : vg_fa k = true) : Iv σ' := by
  subst e
  simp only [vg_fa, Bool.and_eq_true, List.all_eq_true, Bool.not_eq_true'] at hf
  refine h.of (fun q hq => vg_u1_at ?_) (vg_u1_at ?_)
  · rintro ⟨h1, h2⟩
    have h3 := hf.1 q hq
    rw [h1] at h3; simp at h3
  · rintro ⟨rfl, rfl⟩
    have h3 := hf.2
    simp at h3
theorem Iv.w1 {σ σ' : vg_S} {k : Nat} {f : Nat → Int32} (h : Iv σ) (e : σ' = vg_w1 σ k f) (hf : vg_fa k = true) : Iv σ' := by
  subst e
  simp only [vg_fa, Bool.and_eq_true, List.all_eq_true, Bool.not_eq_true'] at hf
  refine h.of (fun q hq => ?_) ?_
  · have h3 := hf.1 q hq
    simp only [vg_w1]
    rw [if_neg]
    intro h1
    rw [h1] at h3; simp at h3
  · have h3 := hf.2
    simp only [vg_w1]
    rw [if_neg]
    intro h1
    rw [← h1] at h3; simp at h3
theorem Iv.u2 {σ σ' : vg_S} {k i : Nat} {x : Int64} (h : Iv σ) (e : σ' = vg_u2 σ k i x) : Iv σ' := by
  subst e
  exact h.of (fun q hq => rfl) rfl
/-- a slot with a word (not the reference's loop, order, levels) gets a number that keeps it -/
def vg_cb (k i : Nat) (lo hi : Int) : Bool := vg_cons.all (fun q => !(Nat.beq q.1 k && Nat.beq q.2.1 i) || (decide (q.2.2.1 = lo) && decide (q.2.2.2 = hi))) && !(Nat.beq k 55 && (Nat.beq i 7 || Nat.beq i 8 || Nat.beq i 10))
theorem Iv.c1 {σ σ' : vg_S} {k i : Nat} {x : Int32} {lo hi : Int} (h : Iv σ) (e : σ' = vg_u1 σ k i x) (hf : vg_cb k i lo hi = true) (h1 : lo ≤ x.toInt) (h2 : x.toInt ≤ hi) : Iv σ' := by
  subst e
  simp only [vg_cb, Bool.and_eq_true, List.all_eq_true, Bool.not_eq_true', Bool.or_eq_true, decide_eq_true_eq, Bool.and_eq_false_iff, Bool.or_eq_false_iff] at hf
  refine ⟨fun q hq => ?_, ?_⟩
  · by_cases hq2 : q.1 = k ∧ q.2.1 = i
    · rcases hf.1 q hq with h3 | h3
      · rcases h3 with h3 | h3
        · rw [hq2.1] at h3; simp at h3
        · rw [hq2.2] at h3; simp at h3
      · rw [hq2.1, hq2.2, vg_u1_self, h3.1, h3.2]
        exact ⟨h1, h2⟩
    · rw [vg_u1_at hq2]
      exact h.1 q hq
  · have ne : ∀ j, (j = 7 ∨ j = 8 ∨ j = 10) → ¬ (55 = k ∧ j = i) := by
      rintro j hj ⟨rfl, rfl⟩
      rcases hf.2 with h3 | h3
      · simp at h3
      · rcases hj with rfl | rfl | rfl <;> simp at h3
    rw [vg_me_eq (vg_u1_at (ne 7 (by omega))) (vg_u1_at (ne 8 (by omega))) (vg_u1_at (ne 10 (by omega)))]
    exact h.2
theorem Iv_0_2 {σ : vg_S} (h : Iv σ) : 0 ≤ (σ.1 0 2).toInt ∧ (σ.1 0 2).toInt ≤ 3 := h.at 0 rfl
theorem Iv_1_3 {σ : vg_S} (h : Iv σ) : 1 ≤ (σ.1 1 3).toInt ∧ (σ.1 1 3).toInt ≤ 1000 := h.at 1 rfl
theorem Iv_4_1 {σ : vg_S} (h : Iv σ) : 1 ≤ (σ.1 4 1).toInt ∧ (σ.1 4 1).toInt ≤ 4 := h.at 2 rfl
theorem Iv_4_2 {σ : vg_S} (h : Iv σ) : 1 ≤ (σ.1 4 2).toInt ∧ (σ.1 4 2).toInt ≤ 5000 := h.at 3 rfl
theorem Iv_4_3 {σ : vg_S} (h : Iv σ) : 2 ≤ (σ.1 4 3).toInt ∧ (σ.1 4 3).toInt ≤ 17 := h.at 4 rfl
theorem Iv_4_4 {σ : vg_S} (h : Iv σ) : 1 ≤ (σ.1 4 4).toInt ∧ (σ.1 4 4).toInt ≤ 60000 := h.at 5 rfl
theorem Iv_4_5 {σ : vg_S} (h : Iv σ) : 0 ≤ (σ.1 4 5).toInt ∧ (σ.1 4 5).toInt ≤ 1 := h.at 6 rfl
theorem Iv_4_6 {σ : vg_S} (h : Iv σ) : 0 ≤ (σ.1 4 6).toInt ∧ (σ.1 4 6).toInt ≤ 5000 := h.at 7 rfl
theorem Iv_23_1 {σ : vg_S} (h : Iv σ) : 1 ≤ (σ.1 23 1).toInt ∧ (σ.1 23 1).toInt ≤ 4 := h.at 8 rfl
theorem Iv_23_2 {σ : vg_S} (h : Iv σ) : 1 ≤ (σ.1 23 2).toInt ∧ (σ.1 23 2).toInt ≤ 5000 := h.at 9 rfl
theorem Iv_23_3 {σ : vg_S} (h : Iv σ) : 2 ≤ (σ.1 23 3).toInt ∧ (σ.1 23 3).toInt ≤ 17 := h.at 10 rfl
theorem Iv_23_4 {σ : vg_S} (h : Iv σ) : 1 ≤ (σ.1 23 4).toInt ∧ (σ.1 23 4).toInt ≤ 60000 := h.at 11 rfl
theorem Iv_23_5 {σ : vg_S} (h : Iv σ) : 0 ≤ (σ.1 23 5).toInt ∧ (σ.1 23 5).toInt ≤ 1 := h.at 12 rfl
theorem Iv_23_6 {σ : vg_S} (h : Iv σ) : 0 ≤ (σ.1 23 6).toInt ∧ (σ.1 23 6).toInt ≤ 5000 := h.at 13 rfl
theorem Iv_7_0 {σ : vg_S} (h : Iv σ) : 1 ≤ (σ.1 7 0).toInt ∧ (σ.1 7 0).toInt ≤ 16 := h.at 14 rfl
theorem Iv_26_0 {σ : vg_S} (h : Iv σ) : 1 ≤ (σ.1 26 0).toInt ∧ (σ.1 26 0).toInt ≤ 16 := h.at 15 rfl
theorem Iv_12_0 {σ : vg_S} (h : Iv σ) : 1 ≤ (σ.1 12 0).toInt ∧ (σ.1 12 0).toInt ≤ 5 := h.at 16 rfl
theorem Iv_12_1 {σ : vg_S} (h : Iv σ) : 1 ≤ (σ.1 12 1).toInt ∧ (σ.1 12 1).toInt ≤ 16 := h.at 17 rfl
theorem Iv_12_2 {σ : vg_S} (h : Iv σ) : 8 ≤ (σ.1 12 2).toInt ∧ (σ.1 12 2).toInt ≤ 32 := h.at 18 rfl
theorem Iv_20_1 {σ : vg_S} (h : Iv σ) : 0 ≤ (σ.1 20 1).toInt ∧ (σ.1 20 1).toInt ≤ 12 := h.at 19 rfl
theorem Iv_41_2 {σ : vg_S} (h : Iv σ) : 0 ≤ (σ.1 41 2).toInt ∧ (σ.1 41 2).toInt ≤ 48 := h.at 20 rfl
theorem Iv_43_2 {σ : vg_S} (h : Iv σ) : 0 ≤ (σ.1 43 2).toInt ∧ (σ.1 43 2).toInt ≤ 48 := h.at 21 rfl
theorem Iv_45_2 {σ : vg_S} (h : Iv σ) : 0 ≤ (σ.1 45 2).toInt ∧ (σ.1 45 2).toInt ≤ 48 := h.at 22 rfl
theorem Iv_47_2 {σ : vg_S} (h : Iv σ) : 0 ≤ (σ.1 47 2).toInt ∧ (σ.1 47 2).toInt ≤ 48 := h.at 23 rfl
theorem Iv_49_2 {σ : vg_S} (h : Iv σ) : 0 ≤ (σ.1 49 2).toInt ∧ (σ.1 49 2).toInt ≤ 48 := h.at 24 rfl
theorem Iv_51_2 {σ : vg_S} (h : Iv σ) : 0 ≤ (σ.1 51 2).toInt ∧ (σ.1 51 2).toInt ≤ 48 := h.at 25 rfl
theorem Iv_53_2 {σ : vg_S} (h : Iv σ) : 0 ≤ (σ.1 53 2).toInt ∧ (σ.1 53 2).toInt ≤ 48 := h.at 26 rfl
theorem Iv_55_6 {σ : vg_S} (h : Iv σ) : 1 ≤ (σ.1 55 6).toInt ∧ (σ.1 55 6).toInt ≤ 1000 := h.at 27 rfl
theorem Iv_55_8 {σ : vg_S} (h : Iv σ) : 1 ≤ (σ.1 55 8).toInt ∧ (σ.1 55 8).toInt ≤ 4 := h.at 28 rfl
theorem Iv_55_10 {σ : vg_S} (h : Iv σ) : 2 ≤ (σ.1 55 10).toInt ∧ (σ.1 55 10).toInt ≤ 17 := h.at 29 rfl
theorem Iv_55_12 {σ : vg_S} (h : Iv σ) : 0 ≤ (σ.1 55 12).toInt ∧ (σ.1 55 12).toInt ≤ 5000 := h.at 30 rfl
theorem Iv_55_16 {σ : vg_S} (h : Iv σ) : 1 ≤ (σ.1 55 16).toInt ∧ (σ.1 55 16).toInt ≤ 5 := h.at 31 rfl
theorem Iv_55_17 {σ : vg_S} (h : Iv σ) : 1 ≤ (σ.1 55 17).toInt ∧ (σ.1 55 17).toInt ≤ 16 := h.at 32 rfl
theorem Iv_55_20 {σ : vg_S} (h : Iv σ) : 0 ≤ (σ.1 55 20).toInt ∧ (σ.1 55 20).toInt ≤ 3 := h.at 33 rfl
theorem Iv_55_33 {σ : vg_S} (h : Iv σ) : 0 ≤ (σ.1 55 33).toInt ∧ (σ.1 55 33).toInt ≤ 12 := h.at 34 rfl
/-- ints that most calls keep -/
def vg_kp (k i : Nat) : Bool := match k with
  | 0 => Nat.beq i 1 || Nat.beq i 2
  | 4 => Nat.beq i 0 || Nat.beq i 1 || Nat.beq i 2 || Nat.beq i 3 || Nat.beq i 4 || Nat.beq i 5 || Nat.beq i 6 || Nat.beq i 7
  | 7 => Nat.beq i 0 || Nat.beq i 1
  | 8 => true
  | 12 => Nat.beq i 0 || Nat.beq i 1 || Nat.beq i 2 || Nat.beq i 3
  | 16 => Nat.beq i 1
  | 17 => true
  | 20 => Nat.beq i 1
  | 21 => true
  | 35 => Nat.beq i 0
  | 37 => Nat.beq i 0
  | 39 => Nat.beq i 0
  | 55 => Nat.beq i 7 || Nat.beq i 8 || Nat.beq i 9 || Nat.beq i 10 || Nat.beq i 14 || Nat.beq i 16 || Nat.beq i 17 || Nat.beq i 18 || Nat.beq i 19 || Nat.beq i 20 || Nat.beq i 21 || Nat.beq i 33
  | 59 => true
  | 60 => true
  | 61 => true
  | 66 => true
  | _ => false
/-- longs that most calls keep: the reference's clock, and it in the copies -/
def vg_kq (k i : Nat) : Bool := Nat.beq i 0 && (Nat.beq k 56 || Nat.beq k 57 || Nat.beq k 67)
def Kl (σ σ' : vg_S) : Prop := ∀ k i, vg_kq k i = true → σ'.2 k i = σ.2 k i
def Kp (σ σ' : vg_S) : Prop := (∀ k i, vg_kp k i = true → σ'.1 k i = σ.1 k i) ∧ Kl σ σ'
theorem Kl.rf {σ : vg_S} : Kl σ σ := fun _ _ _ => rfl
theorem Kp.rf {σ : vg_S} : Kp σ σ := ⟨fun _ _ _ => rfl, Kl.rf⟩
theorem Kl.tr {σ σ' σ'' : vg_S} (h : Kl σ σ') (h2 : Kl σ' σ'') : Kl σ σ'' := fun k i hk => (h2 k i hk).trans (h k i hk)
theorem Kp.tr {σ σ' σ'' : vg_S} (h : Kp σ σ') (h2 : Kp σ' σ'') : Kp σ σ'' := ⟨fun k i hk => (h2.1 k i hk).trans (h.1 k i hk), h.2.tr h2.2⟩
theorem Kl.u1 {σ σ' σ'' : vg_S} {k i : Nat} {x : Int32} (h : Kl σ σ') (e : σ'' = vg_u1 σ' k i x) : Kl σ σ'' := by
  subst e
  exact h
theorem Kl.w1 {σ σ' σ'' : vg_S} {k : Nat} {f : Nat → Int32} (h : Kl σ σ') (e : σ'' = vg_w1 σ' k f) : Kl σ σ'' := by
  subst e
  exact h
theorem Kl.u2 {σ σ' σ'' : vg_S} {k i : Nat} {x : Int64} (h : Kl σ σ') (e : σ'' = vg_u2 σ' k i x) (hk : vg_kq k i = false) : Kl σ σ'' := by
  subst e
  intro a b hab
  rw [vg_u2_at (by rintro ⟨rfl, rfl⟩; rw [hab] at hk; cases hk)]
  exact h a b hab
theorem Kp.u1 {σ σ' σ'' : vg_S} {k i : Nat} {x : Int32} (h : Kp σ σ') (e : σ'' = vg_u1 σ' k i x) (hk : vg_kp k i = false) : Kp σ σ'' := by
  refine ⟨fun a b hab => ?_, h.2.u1 e⟩
  subst e
  rw [vg_u1_at (by rintro ⟨rfl, rfl⟩; rw [hab] at hk; cases hk)]
  exact h.1 a b hab
theorem Kp.w1 {σ σ' σ'' : vg_S} {k : Nat} {f : Nat → Int32} (h : Kp σ σ') (e : σ'' = vg_w1 σ' k f) (hk : ∀ i, vg_kp k i = false) : Kp σ σ'' := by
  refine ⟨fun a b hab => ?_, h.2.w1 e⟩
  subst e
  simp only [vg_w1]
  rw [if_neg (by rintro rfl; rw [hk] at hab; cases hab)]
  exact h.1 a b hab
theorem Kp.u2 {σ σ' σ'' : vg_S} {k i : Nat} {x : Int64} (h : Kp σ σ') (e : σ'' = vg_u2 σ' k i x) (hk : vg_kq k i = false) : Kp σ σ'' := by
  refine ⟨fun a b hab => ?_, h.2.u2 e hk⟩
  subst e
  exact h.1 a b hab
theorem vg_kq_pos {k : Nat} {x : Int32} (h : 0 < x.toInt) : vg_kq k x.toNatClampNeg = false := by
  have : x.toNatClampNeg = x.toInt.toNat := rfl
  simp only [vg_kq, Bool.and_eq_false_iff]
  exact Or.inl (vg_beq (by omega))
theorem vg_inGW {i : Nat} {w : Cond} (h : vg_nth lw_tbl i = some w) (hg : goodWord w = true) : w ∈ vg_GW := by
  rw [vg_nth_eq] at h
  exact List.mem_filter.mpr ⟨List.mem_of_getElem? h, hg⟩
/-- of the claim's own room: a method's places hold -/
abbrev vg_Hp (G : vg_G) : Prop := ∀ i j, i < vg_sh.length → j < vg_sh.length → G.2.2 i = G.2.2 j → i = j
end
section
/-! contracts -/
set_option maxRecDepth 100000 in
theorem vg_cpw_in : ∀ w ∈ vg_cpw, w ∈ vg_GW := by
  intro w hw
  simp only [vg_cpw, List.mem_cons, List.not_mem_nil, or_false] at hw
  rcases hw with rfl | rfl | rfl
  · exact vg_inGW (i := 947) rfl rfl
  · exact vg_inGW (i := 946) rfl rfl
  · exact vg_inGW (i := 88) rfl rfl
def r_J9_max_7cf53 : vg_R := ((yJ9_max_7cf53, cJ9_max_7cf53, 2, (some .int), 0, 0, 1, [], true), (fun as σ => ∃ (a1 : Int32) (a2 : Int32), as = [.int a1, .int a2] ∧ True), (fun as σ v σ' => match as, v with
  | [.int a1, .int a2], some (.int v) => σ' = σ ∧ (a1.toInt ≤ v.toInt ∧ a2.toInt ≤ v.toInt ∧ (v.toInt = a1.toInt ∨ v.toInt = a2.toInt))
  | _, _ => False))
set_option maxRecDepth 100000 in
theorem k_J9_max_7cf53 : vg_rok r_J9_max_7cf53 := ⟨vg_inGW (i := 671) rfl rfl, vg_inGW (i := 87) rfl rfl, ⟨by decide, by decide⟩, vg_mathPlain rfl (by decide), vg_inGW (i := 670) rfl rfl⟩
def r_J9_min_7cf53 : vg_R := ((yJ9_min_7cf53, cJ9_min_7cf53, 2, (some .int), 0, 0, 1, [], true), (fun as σ => ∃ (a1 : Int32) (a2 : Int32), as = [.int a1, .int a2] ∧ True), (fun as σ v σ' => match as, v with
  | [.int a1, .int a2], some (.int v) => σ' = σ ∧ (v.toInt ≤ a1.toInt ∧ v.toInt ≤ a2.toInt ∧ (v.toInt = a1.toInt ∨ v.toInt = a2.toInt))
  | _, _ => False))
set_option maxRecDepth 100000 in
theorem k_J9_min_7cf53 : vg_rok r_J9_min_7cf53 := ⟨vg_inGW (i := 640) rfl rfl, vg_inGW (i := 87) rfl rfl, ⟨by decide, by decide⟩, vg_mathPlain rfl (by decide), vg_inGW (i := 639) rfl rfl⟩
def r_X4_clear : vg_R := ((yX4_clear, cX4_clear, 1, none, 0, 0, 0, [], false), (fun as σ => ∃ (r : Nat), as = [.ref r] ∧ r ∈ ([41, 43, 45, 47, 49, 51, 53] : List Nat) ∧ Iv σ), (fun as σ v σ' => match as, v with
  | [.ref r], none => Iv σ' ∧ Kp σ σ' ∧ (True)
  | _, _ => False))
set_option maxRecDepth 100000 in
theorem k_X4_clear : vg_rok r_X4_clear := ⟨vg_inGW (i := 495) rfl rfl, vg_inGW (i := 84) rfl rfl, ⟨by decide, by decide⟩, plainFor_of_name (by decide), ⟨vg_inGW (i := 493) rfl rfl, vg_inGW (i := 494) rfl rfl⟩⟩
def r_X4_get : vg_R := ((yX4_get, cX4_get, 2, (some .int), 0, 0, 1, [], false), (fun as σ => ∃ (r : Nat) (a1 : Int32), as = [.ref r, .int a1] ∧ r ∈ ([41, 43, 45, 47, 49, 51, 53] : List Nat) ∧ Iv σ), (fun as σ v σ' => match as, v with
  | [.ref r, .int a1], some (.int v) => σ' = σ ∧ (True)
  | _, _ => False))
set_option maxRecDepth 100000 in
theorem k_X4_get : vg_rok r_X4_get := ⟨vg_inGW (i := 791) rfl rfl, vg_inGW (i := 84) rfl rfl, ⟨by decide, by decide⟩, plainFor_of_name (by decide), ⟨vg_inGW (i := 789) rfl rfl, vg_inGW (i := 790) rfl rfl⟩⟩
def r_X4_put : vg_R := ((yX4_put, cX4_put, 2, none, 1, 21, 0, [], false), (fun as σ => ∃ (r : Nat) (a1 : Int32), as = [.ref r, .int a1] ∧ r ∈ ([41, 43, 45, 47, 49, 51, 53] : List Nat) ∧ Iv σ), (fun as σ v σ' => match as, v with
  | [.ref r, .int a1], none => Iv σ' ∧ Kp σ σ' ∧ (True)
  | _, _ => False))
set_option maxRecDepth 100000 in
theorem k_X4_put : vg_rok r_X4_put := ⟨vg_inGW (i := 637) rfl rfl, vg_inGW (i := 84) rfl rfl, ⟨by decide, by decide⟩, plainFor_of_name (by decide), ⟨vg_inGW (i := 635) rfl rfl, vg_inGW (i := 636) rfl rfl⟩⟩
end
section
def o_J9_max_7cf53 : List vg_I := [(0, .iload_n 0, 1, 0, 0, 0, 0), (1, .iload_n 1, 1, 0, 0, 0, 0), (2, .if_icmp .lt 7, 3, 0, 0, 0, 0), (5, .iload_n 0, 1, 0, 0, 0, 0), (6, .goto 4, 3, 0, 0, 0, 0), (9, .iload_n 1, 1, 0, 0, 0, 0), (10, .ireturn, 1, 0, 0, 0, 0)]
set_option maxRecDepth 100000 in
set_option maxHeartbeats 4000000 in
theorem c_J9_max_7cf53 (l : Launch) (G : vg_G) (hp : vg_Hp G) : vg_Ct l G vg_sh r_J9_max_7cf53 := by
  refine vg_meth hp vg_sh_ok r_J9_max_7cf53 k_J9_max_7cf53 rfl (fun h => by cases h) o_J9_max_7cf53 [] false (by decide +kernel) (by decide +kernel) ⟨_, _, rfl, rfl⟩ (fun _ h => absurd h List.not_mem_nil) (fun h => by cases h) 600 ?_
  intro as s0 hpre
  obtain ⟨a1, a2, rfl, -⟩ := hpre
  refine ⟨Nat.le_of_ble_eq_true rfl, [], ?_, fun _ h => absurd h List.not_mem_nil⟩
  ·
    refine And.intro (fun c1 => ?_) (fun c1 => ?_)
    · have c1 : a1.toInt < a2.toInt := c1
      show s0 = s0 ∧ (a1.toInt ≤ a2.toInt ∧ a2.toInt ≤ a2.toInt ∧ (a2.toInt = a1.toInt ∨ a2.toInt = a2.toInt))
      exact ⟨rfl, (by first | trivial | omega | assumption)⟩
    · have c1 : ¬ (a1.toInt < a2.toInt) := c1
      show s0 = s0 ∧ (a1.toInt ≤ a1.toInt ∧ a2.toInt ≤ a1.toInt ∧ (a1.toInt = a1.toInt ∨ a1.toInt = a2.toInt))
      exact ⟨rfl, (by first | trivial | omega | assumption)⟩
def o_J9_min_7cf53 : List vg_I := [(0, .iload_n 0, 1, 0, 0, 0, 0), (1, .iload_n 1, 1, 0, 0, 0, 0), (2, .if_icmp .gt 7, 3, 0, 0, 0, 0), (5, .iload_n 0, 1, 0, 0, 0, 0), (6, .goto 4, 3, 0, 0, 0, 0), (9, .iload_n 1, 1, 0, 0, 0, 0), (10, .ireturn, 1, 0, 0, 0, 0)]
set_option maxRecDepth 100000 in
set_option maxHeartbeats 4000000 in
theorem c_J9_min_7cf53 (l : Launch) (G : vg_G) (hp : vg_Hp G) : vg_Ct l G vg_sh r_J9_min_7cf53 := by
  refine vg_meth hp vg_sh_ok r_J9_min_7cf53 k_J9_min_7cf53 rfl (fun h => by cases h) o_J9_min_7cf53 [] false (by decide +kernel) (by decide +kernel) ⟨_, _, rfl, rfl⟩ (fun _ h => absurd h List.not_mem_nil) (fun h => by cases h) 600 ?_
  intro as s0 hpre
  obtain ⟨a1, a2, rfl, -⟩ := hpre
  refine ⟨Nat.le_of_ble_eq_true rfl, [], ?_, fun _ h => absurd h List.not_mem_nil⟩
  ·
    refine And.intro (fun c1 => ?_) (fun c1 => ?_)
    · have c1 : a2.toInt < a1.toInt := c1
      show s0 = s0 ∧ (a2.toInt ≤ a1.toInt ∧ a2.toInt ≤ a2.toInt ∧ (a2.toInt = a1.toInt ∨ a2.toInt = a2.toInt))
      exact ⟨rfl, (by first | trivial | omega | assumption)⟩
    · have c1 : ¬ (a2.toInt < a1.toInt) := c1
      show s0 = s0 ∧ (a1.toInt ≤ a1.toInt ∧ a1.toInt ≤ a2.toInt ∧ (a1.toInt = a1.toInt ∨ a1.toInt = a2.toInt))
      exact ⟨rfl, (by first | trivial | omega | assumption)⟩
def o_X4_clear : List vg_I := [(0, .aload_n 0, 1, 0, 0, 0, 0), (1, .iconst 0, 1, 0, 0, 0, 0), (2, .putfield 13, 3, 414, 4, 2, 0), (5, .aload_n 0, 1, 0, 0, 0, 0), (6, .iconst 0, 1, 0, 0, 0, 0), (7, .putfield 17, 3, 416, 4, 3, 0), (10, .return_, 1, 0, 0, 0, 0)]
set_option maxRecDepth 100000 in
set_option maxHeartbeats 4000000 in
theorem c_X4_clear (l : Launch) (G : vg_G) (hp : vg_Hp G) : vg_Ct l G vg_sh r_X4_clear := by
  refine vg_meth hp vg_sh_ok r_X4_clear k_X4_clear rfl (fun h => by cases h) o_X4_clear [] false (by decide +kernel) (by decide +kernel) ⟨_, _, rfl, rfl⟩ (fun _ h => absurd h List.not_mem_nil) (fun h => by cases h) 600 ?_
  intro as s0 hpre
  obtain ⟨r, rfl, hr, i0⟩ := hpre
  simp only [List.mem_cons, List.not_mem_nil, or_false] at hr
  rcases hr with rfl | rfl | rfl | rfl | rfl | rfl | rfl
  ·
    have z0 : (Int32.ofInt 0).toInt = 0 := by decide
    refine ⟨Nat.le_of_ble_eq_true rfl, [], ?_, fun _ h => absurd h List.not_mem_nil⟩
    ·
      intro s1 e2
      have i3 : Iv s1 := Iv.c1 (lo := 0) (hi := 48) i0 e2 rfl (by omega) (by omega)
      have k4 : Kp s0 s1 := Kp.u1 Kp.rf e2 rfl
      intro s5 e6
      have i7 : Iv s5 := Iv.u1 i3 e6 rfl
      have k8 : Kp s0 s5 := Kp.u1 k4 e6 rfl
      show Iv s5 ∧ Kp s0 s5 ∧ (True)
      exact ⟨i7, k8, (trivial)⟩
  ·
    have z0 : (Int32.ofInt 0).toInt = 0 := by decide
    refine ⟨Nat.le_of_ble_eq_true rfl, [], ?_, fun _ h => absurd h List.not_mem_nil⟩
    ·
      intro s1 e2
      have i3 : Iv s1 := Iv.c1 (lo := 0) (hi := 48) i0 e2 rfl (by omega) (by omega)
      have k4 : Kp s0 s1 := Kp.u1 Kp.rf e2 rfl
      intro s5 e6
      have i7 : Iv s5 := Iv.u1 i3 e6 rfl
      have k8 : Kp s0 s5 := Kp.u1 k4 e6 rfl
      show Iv s5 ∧ Kp s0 s5 ∧ (True)
      exact ⟨i7, k8, (trivial)⟩
  ·
    have z0 : (Int32.ofInt 0).toInt = 0 := by decide
    refine ⟨Nat.le_of_ble_eq_true rfl, [], ?_, fun _ h => absurd h List.not_mem_nil⟩
    ·
      intro s1 e2
      have i3 : Iv s1 := Iv.c1 (lo := 0) (hi := 48) i0 e2 rfl (by omega) (by omega)
      have k4 : Kp s0 s1 := Kp.u1 Kp.rf e2 rfl
      intro s5 e6
      have i7 : Iv s5 := Iv.u1 i3 e6 rfl
      have k8 : Kp s0 s5 := Kp.u1 k4 e6 rfl
      show Iv s5 ∧ Kp s0 s5 ∧ (True)
      exact ⟨i7, k8, (trivial)⟩
  ·
    have z0 : (Int32.ofInt 0).toInt = 0 := by decide
    refine ⟨Nat.le_of_ble_eq_true rfl, [], ?_, fun _ h => absurd h List.not_mem_nil⟩
    ·
      intro s1 e2
      have i3 : Iv s1 := Iv.c1 (lo := 0) (hi := 48) i0 e2 rfl (by omega) (by omega)
      have k4 : Kp s0 s1 := Kp.u1 Kp.rf e2 rfl
      intro s5 e6
      have i7 : Iv s5 := Iv.u1 i3 e6 rfl
      have k8 : Kp s0 s5 := Kp.u1 k4 e6 rfl
      show Iv s5 ∧ Kp s0 s5 ∧ (True)
      exact ⟨i7, k8, (trivial)⟩
  ·
    have z0 : (Int32.ofInt 0).toInt = 0 := by decide
    refine ⟨Nat.le_of_ble_eq_true rfl, [], ?_, fun _ h => absurd h List.not_mem_nil⟩
    ·
      intro s1 e2
      have i3 : Iv s1 := Iv.c1 (lo := 0) (hi := 48) i0 e2 rfl (by omega) (by omega)
      have k4 : Kp s0 s1 := Kp.u1 Kp.rf e2 rfl
      intro s5 e6
      have i7 : Iv s5 := Iv.u1 i3 e6 rfl
      have k8 : Kp s0 s5 := Kp.u1 k4 e6 rfl
      show Iv s5 ∧ Kp s0 s5 ∧ (True)
      exact ⟨i7, k8, (trivial)⟩
  ·
    have z0 : (Int32.ofInt 0).toInt = 0 := by decide
    refine ⟨Nat.le_of_ble_eq_true rfl, [], ?_, fun _ h => absurd h List.not_mem_nil⟩
    ·
      intro s1 e2
      have i3 : Iv s1 := Iv.c1 (lo := 0) (hi := 48) i0 e2 rfl (by omega) (by omega)
      have k4 : Kp s0 s1 := Kp.u1 Kp.rf e2 rfl
      intro s5 e6
      have i7 : Iv s5 := Iv.u1 i3 e6 rfl
      have k8 : Kp s0 s5 := Kp.u1 k4 e6 rfl
      show Iv s5 ∧ Kp s0 s5 ∧ (True)
      exact ⟨i7, k8, (trivial)⟩
  ·
    have z0 : (Int32.ofInt 0).toInt = 0 := by decide
    refine ⟨Nat.le_of_ble_eq_true rfl, [], ?_, fun _ h => absurd h List.not_mem_nil⟩
    ·
      intro s1 e2
      have i3 : Iv s1 := Iv.c1 (lo := 0) (hi := 48) i0 e2 rfl (by omega) (by omega)
      have k4 : Kp s0 s1 := Kp.u1 Kp.rf e2 rfl
      intro s5 e6
      have i7 : Iv s5 := Iv.u1 i3 e6 rfl
      have k8 : Kp s0 s5 := Kp.u1 k4 e6 rfl
      show Iv s5 ∧ Kp s0 s5 ∧ (True)
      exact ⟨i7, k8, (trivial)⟩
def o_X4_get : List vg_I := [(0, .aload_n 0, 1, 0, 0, 0, 0), (1, .getfield 9, 3, 412, 4, 0, 0), (4, .aload_n 0, 1, 0, 0, 0, 0), (5, .getfield 20, 3, 413, 4, 1, 0), (8, .iload_n 1, 1, 0, 0, 0, 0), (9, .isub, 1, 0, 0, 0, 0), (10, .bipush 63, 2, 0, 0, 0, 0), (12, .iand, 1, 0, 0, 0, 0), (13, .iaload, 1, 0, 0, 0, 0), (14, .ireturn, 1, 0, 0, 0, 0)]
set_option maxRecDepth 100000 in
set_option maxHeartbeats 4000000 in
theorem c_X4_get (l : Launch) (G : vg_G) (hp : vg_Hp G) : vg_Ct l G vg_sh r_X4_get := by
  refine vg_meth hp vg_sh_ok r_X4_get k_X4_get rfl (fun h => by cases h) o_X4_get [] false (by decide +kernel) (by decide +kernel) ⟨_, _, rfl, rfl⟩ (fun _ h => absurd h List.not_mem_nil) (fun h => by cases h) 600 ?_
  intro as s0 hpre
  obtain ⟨r, a1, rfl, hr, i0⟩ := hpre
  simp only [List.mem_cons, List.not_mem_nil, or_false] at hr
  rcases hr with rfl | rfl | rfl | rfl | rfl | rfl | rfl
  ·
    have z63 : (Int32.ofInt 63).toInt = 63 := by decide
    refine ⟨Nat.le_of_ble_eq_true rfl, [], ?_, fun _ h => absurd h List.not_mem_nil⟩
    ·
      intro v1 e2
      have g3 : s0.1 41 1 = v1 := by rw [e2]
      intro v4 e5
      intro v6 e7
      have b8 := vg_and e7 (by omega)
      refine And.intro ⟨by omega, by omega⟩ ?_
      intro v9 e10
      show s0 = s0 ∧ (True)
      exact ⟨rfl, (trivial)⟩
  ·
    have z63 : (Int32.ofInt 63).toInt = 63 := by decide
    refine ⟨Nat.le_of_ble_eq_true rfl, [], ?_, fun _ h => absurd h List.not_mem_nil⟩
    ·
      intro v1 e2
      have g3 : s0.1 43 1 = v1 := by rw [e2]
      intro v4 e5
      intro v6 e7
      have b8 := vg_and e7 (by omega)
      refine And.intro ⟨by omega, by omega⟩ ?_
      intro v9 e10
      show s0 = s0 ∧ (True)
      exact ⟨rfl, (trivial)⟩
  ·
    have z63 : (Int32.ofInt 63).toInt = 63 := by decide
    refine ⟨Nat.le_of_ble_eq_true rfl, [], ?_, fun _ h => absurd h List.not_mem_nil⟩
    ·
      intro v1 e2
      have g3 : s0.1 45 1 = v1 := by rw [e2]
      intro v4 e5
      intro v6 e7
      have b8 := vg_and e7 (by omega)
      refine And.intro ⟨by omega, by omega⟩ ?_
      intro v9 e10
      show s0 = s0 ∧ (True)
      exact ⟨rfl, (trivial)⟩
  ·
    have z63 : (Int32.ofInt 63).toInt = 63 := by decide
    refine ⟨Nat.le_of_ble_eq_true rfl, [], ?_, fun _ h => absurd h List.not_mem_nil⟩
    ·
      intro v1 e2
      have g3 : s0.1 47 1 = v1 := by rw [e2]
      intro v4 e5
      intro v6 e7
      have b8 := vg_and e7 (by omega)
      refine And.intro ⟨by omega, by omega⟩ ?_
      intro v9 e10
      show s0 = s0 ∧ (True)
      exact ⟨rfl, (trivial)⟩
  ·
    have z63 : (Int32.ofInt 63).toInt = 63 := by decide
    refine ⟨Nat.le_of_ble_eq_true rfl, [], ?_, fun _ h => absurd h List.not_mem_nil⟩
    ·
      intro v1 e2
      have g3 : s0.1 49 1 = v1 := by rw [e2]
      intro v4 e5
      intro v6 e7
      have b8 := vg_and e7 (by omega)
      refine And.intro ⟨by omega, by omega⟩ ?_
      intro v9 e10
      show s0 = s0 ∧ (True)
      exact ⟨rfl, (trivial)⟩
  ·
    have z63 : (Int32.ofInt 63).toInt = 63 := by decide
    refine ⟨Nat.le_of_ble_eq_true rfl, [], ?_, fun _ h => absurd h List.not_mem_nil⟩
    ·
      intro v1 e2
      have g3 : s0.1 51 1 = v1 := by rw [e2]
      intro v4 e5
      intro v6 e7
      have b8 := vg_and e7 (by omega)
      refine And.intro ⟨by omega, by omega⟩ ?_
      intro v9 e10
      show s0 = s0 ∧ (True)
      exact ⟨rfl, (trivial)⟩
  ·
    have z63 : (Int32.ofInt 63).toInt = 63 := by decide
    refine ⟨Nat.le_of_ble_eq_true rfl, [], ?_, fun _ h => absurd h List.not_mem_nil⟩
    ·
      intro v1 e2
      have g3 : s0.1 53 1 = v1 := by rw [e2]
      intro v4 e5
      intro v6 e7
      have b8 := vg_and e7 (by omega)
      refine And.intro ⟨by omega, by omega⟩ ?_
      intro v9 e10
      show s0 = s0 ∧ (True)
      exact ⟨rfl, (trivial)⟩
def o_X4_put : List vg_I := [(0, .aload_n 0, 1, 0, 0, 0, 0), (1, .aload_n 0, 1, 0, 0, 0, 0), (2, .getfield 20, 3, 413, 4, 1, 0), (5, .iconst 1, 1, 0, 0, 0, 0), (6, .iadd, 1, 0, 0, 0, 0), (7, .bipush 63, 2, 0, 0, 0, 0), (9, .iand, 1, 0, 0, 0, 0), (10, .putfield 20, 3, 413, 4, 1, 0), (13, .aload_n 0, 1, 0, 0, 0, 0), (14, .getfield 9, 3, 412, 4, 0, 0), (17, .aload_n 0, 1, 0, 0, 0, 0), (18, .getfield 20, 3, 413, 4, 1, 0), (21, .iload_n 1, 1, 0, 0, 0, 0), (22, .iastore, 1, 0, 0, 0, 0), (23, .aload_n 0, 1, 0, 0, 0, 0), (24, .bipush 48, 2, 0, 0, 0, 0), (26, .aload_n 0, 1, 0, 0, 0, 0), (27, .getfield 13, 3, 414, 4, 2, 0), (30, .iconst 1, 1, 0, 0, 0, 0), (31, .iadd, 1, 0, 0, 0, 0), (32, .invokestatic 23, 3, 0, 1, 2, 638), (35, .putfield 13, 3, 414, 4, 2, 0), (38, .aload_n 0, 1, 0, 0, 0, 0), (39, .dup, 1, 0, 0, 0, 0), (40, .getfield 17, 3, 416, 4, 3, 0), (43, .iconst 1, 1, 0, 0, 0, 0), (44, .iadd, 1, 0, 0, 0, 0), (45, .putfield 17, 3, 416, 4, 3, 0), (48, .return_, 1, 0, 0, 0, 0)]
set_option maxRecDepth 100000 in
set_option maxHeartbeats 4000000 in
theorem c_X4_put (l : Launch) (G : vg_G) (hp : vg_Hp G) : vg_Ct l G vg_sh r_X4_put := by
  refine vg_meth hp vg_sh_ok r_X4_put k_X4_put rfl (fun h => by cases h) o_X4_put [r_J9_min_7cf53] false (by decide +kernel) (by decide +kernel) ⟨_, _, rfl, rfl⟩ (List.forall_mem_cons.mpr ⟨⟨c_J9_min_7cf53 l G hp, Nat.le_of_ble_eq_true rfl, Nat.le_of_ble_eq_true rfl⟩, fun _ h => absurd h List.not_mem_nil⟩) (fun h => by cases h) 600 ?_
  intro as s0 hpre
  obtain ⟨r, a1, rfl, hr, i0⟩ := hpre
  simp only [List.mem_cons, List.not_mem_nil, or_false] at hr
  rcases hr with rfl | rfl | rfl | rfl | rfl | rfl | rfl
  ·
    have z1 : (Int32.ofInt 1).toInt = 1 := by decide
    have z48 : (Int32.ofInt 48).toInt = 48 := by decide
    have z63 : (Int32.ofInt 63).toInt = 63 := by decide
    refine ⟨Nat.le_of_ble_eq_true rfl, [], ?_, fun _ h => absurd h List.not_mem_nil⟩
    ·
      intro v1 e2
      have g3 : s0.1 41 1 = v1 := by rw [e2]
      intro v4 e5
      intro v6 e7
      have b8 := vg_and e7 (by omega)
      intro s9 e10
      have i11 : Iv s9 := Iv.u1 i0 e10 rfl
      have k12 : Kp s0 s9 := Kp.u1 Kp.rf e10 rfl
      intro v13 e14
      have w15 : v6 = v13 := by rw [e14, e10]; exact vg_u1_self.symm
      subst w15
      refine And.intro ⟨by omega, by omega⟩ ?_
      intro s16 e17
      have i18 : Iv s16 := Iv.a1 i11 e17 rfl
      have k19 : Kp s0 s16 := Kp.u1 k12 e17 rfl
      intro v20 e21
      have g22 : s0.1 41 2 = v20 := by rw [e21, e17, vg_u1_ne (a := 41) (k := 42) (by decide), e10, vg_u1_at (a := 41) (b := 2) (k := 41) (i := 1) (by decide)]
      have b23 : (0 : Int) ≤ v20.toInt ∧ v20.toInt ≤ 48 := by rw [e21]; exact Iv_41_2 i18
      intro v24 e25
      have b26 := vg_add e25 (by omega) (by omega)
      refine And.intro (Nat.le_of_ble_eq_true rfl) (And.intro ⟨(Int32.ofInt 48), v24, rfl, trivial⟩ ?_)
      intro v27 s29 h28
      have h28 : s29 = s16 ∧ (v27.toInt ≤ (Int32.ofInt 48).toInt ∧ v27.toInt ≤ v24.toInt ∧ (v27.toInt = (Int32.ofInt 48).toInt ∨ v27.toInt = v24.toInt)) := h28
      have i30 : Iv s29 := by rw [h28.1]; exact i18
      have k31 : Kp s0 s29 := by rw [h28.1]; exact k19
      have q32 := h28.2
      intro s33 e34
      have i35 : Iv s33 := Iv.c1 (lo := 0) (hi := 48) i30 e34 rfl (by omega) (by omega)
      have k36 : Kp s0 s33 := Kp.u1 k31 e34 rfl
      intro v37 e38
      have g39 : s29.1 41 3 = v37 := by rw [e38, e34, vg_u1_at (a := 41) (b := 3) (k := 41) (i := 2) (by decide)]
      intro v40 e41
      intro s42 e43
      have i44 : Iv s42 := Iv.u1 i35 e43 rfl
      have k45 : Kp s0 s42 := Kp.u1 k36 e43 rfl
      show Iv s42 ∧ Kp s0 s42 ∧ (True)
      exact ⟨i44, k45, (trivial)⟩
  ·
    have z1 : (Int32.ofInt 1).toInt = 1 := by decide
    have z48 : (Int32.ofInt 48).toInt = 48 := by decide
    have z63 : (Int32.ofInt 63).toInt = 63 := by decide
    refine ⟨Nat.le_of_ble_eq_true rfl, [], ?_, fun _ h => absurd h List.not_mem_nil⟩
    ·
      intro v1 e2
      have g3 : s0.1 43 1 = v1 := by rw [e2]
      intro v4 e5
      intro v6 e7
      have b8 := vg_and e7 (by omega)
      intro s9 e10
      have i11 : Iv s9 := Iv.u1 i0 e10 rfl
      have k12 : Kp s0 s9 := Kp.u1 Kp.rf e10 rfl
      intro v13 e14
      have w15 : v6 = v13 := by rw [e14, e10]; exact vg_u1_self.symm
      subst w15
      refine And.intro ⟨by omega, by omega⟩ ?_
      intro s16 e17
      have i18 : Iv s16 := Iv.a1 i11 e17 rfl
      have k19 : Kp s0 s16 := Kp.u1 k12 e17 rfl
      intro v20 e21
      have g22 : s0.1 43 2 = v20 := by rw [e21, e17, vg_u1_ne (a := 43) (k := 44) (by decide), e10, vg_u1_at (a := 43) (b := 2) (k := 43) (i := 1) (by decide)]
      have b23 : (0 : Int) ≤ v20.toInt ∧ v20.toInt ≤ 48 := by rw [e21]; exact Iv_43_2 i18
      intro v24 e25
      have b26 := vg_add e25 (by omega) (by omega)
      refine And.intro (Nat.le_of_ble_eq_true rfl) (And.intro ⟨(Int32.ofInt 48), v24, rfl, trivial⟩ ?_)
      intro v27 s29 h28
      have h28 : s29 = s16 ∧ (v27.toInt ≤ (Int32.ofInt 48).toInt ∧ v27.toInt ≤ v24.toInt ∧ (v27.toInt = (Int32.ofInt 48).toInt ∨ v27.toInt = v24.toInt)) := h28
      have i30 : Iv s29 := by rw [h28.1]; exact i18
      have k31 : Kp s0 s29 := by rw [h28.1]; exact k19
      have q32 := h28.2
      intro s33 e34
      have i35 : Iv s33 := Iv.c1 (lo := 0) (hi := 48) i30 e34 rfl (by omega) (by omega)
      have k36 : Kp s0 s33 := Kp.u1 k31 e34 rfl
      intro v37 e38
      have g39 : s29.1 43 3 = v37 := by rw [e38, e34, vg_u1_at (a := 43) (b := 3) (k := 43) (i := 2) (by decide)]
      intro v40 e41
      intro s42 e43
      have i44 : Iv s42 := Iv.u1 i35 e43 rfl
      have k45 : Kp s0 s42 := Kp.u1 k36 e43 rfl
      show Iv s42 ∧ Kp s0 s42 ∧ (True)
      exact ⟨i44, k45, (trivial)⟩
  ·
    have z1 : (Int32.ofInt 1).toInt = 1 := by decide
    have z48 : (Int32.ofInt 48).toInt = 48 := by decide
    have z63 : (Int32.ofInt 63).toInt = 63 := by decide
    refine ⟨Nat.le_of_ble_eq_true rfl, [], ?_, fun _ h => absurd h List.not_mem_nil⟩
    ·
      intro v1 e2
      have g3 : s0.1 45 1 = v1 := by rw [e2]
      intro v4 e5
      intro v6 e7
      have b8 := vg_and e7 (by omega)
      intro s9 e10
      have i11 : Iv s9 := Iv.u1 i0 e10 rfl
      have k12 : Kp s0 s9 := Kp.u1 Kp.rf e10 rfl
      intro v13 e14
      have w15 : v6 = v13 := by rw [e14, e10]; exact vg_u1_self.symm
      subst w15
      refine And.intro ⟨by omega, by omega⟩ ?_
      intro s16 e17
      have i18 : Iv s16 := Iv.a1 i11 e17 rfl
      have k19 : Kp s0 s16 := Kp.u1 k12 e17 rfl
      intro v20 e21
      have g22 : s0.1 45 2 = v20 := by rw [e21, e17, vg_u1_ne (a := 45) (k := 46) (by decide), e10, vg_u1_at (a := 45) (b := 2) (k := 45) (i := 1) (by decide)]
      have b23 : (0 : Int) ≤ v20.toInt ∧ v20.toInt ≤ 48 := by rw [e21]; exact Iv_45_2 i18
      intro v24 e25
      have b26 := vg_add e25 (by omega) (by omega)
      refine And.intro (Nat.le_of_ble_eq_true rfl) (And.intro ⟨(Int32.ofInt 48), v24, rfl, trivial⟩ ?_)
      intro v27 s29 h28
      have h28 : s29 = s16 ∧ (v27.toInt ≤ (Int32.ofInt 48).toInt ∧ v27.toInt ≤ v24.toInt ∧ (v27.toInt = (Int32.ofInt 48).toInt ∨ v27.toInt = v24.toInt)) := h28
      have i30 : Iv s29 := by rw [h28.1]; exact i18
      have k31 : Kp s0 s29 := by rw [h28.1]; exact k19
      have q32 := h28.2
      intro s33 e34
      have i35 : Iv s33 := Iv.c1 (lo := 0) (hi := 48) i30 e34 rfl (by omega) (by omega)
      have k36 : Kp s0 s33 := Kp.u1 k31 e34 rfl
      intro v37 e38
      have g39 : s29.1 45 3 = v37 := by rw [e38, e34, vg_u1_at (a := 45) (b := 3) (k := 45) (i := 2) (by decide)]
      intro v40 e41
      intro s42 e43
      have i44 : Iv s42 := Iv.u1 i35 e43 rfl
      have k45 : Kp s0 s42 := Kp.u1 k36 e43 rfl
      show Iv s42 ∧ Kp s0 s42 ∧ (True)
      exact ⟨i44, k45, (trivial)⟩
  ·
    have z1 : (Int32.ofInt 1).toInt = 1 := by decide
    have z48 : (Int32.ofInt 48).toInt = 48 := by decide
    have z63 : (Int32.ofInt 63).toInt = 63 := by decide
    refine ⟨Nat.le_of_ble_eq_true rfl, [], ?_, fun _ h => absurd h List.not_mem_nil⟩
    ·
      intro v1 e2
      have g3 : s0.1 47 1 = v1 := by rw [e2]
      intro v4 e5
      intro v6 e7
      have b8 := vg_and e7 (by omega)
      intro s9 e10
      have i11 : Iv s9 := Iv.u1 i0 e10 rfl
      have k12 : Kp s0 s9 := Kp.u1 Kp.rf e10 rfl
      intro v13 e14
      have w15 : v6 = v13 := by rw [e14, e10]; exact vg_u1_self.symm
      subst w15
      refine And.intro ⟨by omega, by omega⟩ ?_
      intro s16 e17
      have i18 : Iv s16 := Iv.a1 i11 e17 rfl
      have k19 : Kp s0 s16 := Kp.u1 k12 e17 rfl
      intro v20 e21
      have g22 : s0.1 47 2 = v20 := by rw [e21, e17, vg_u1_ne (a := 47) (k := 48) (by decide), e10, vg_u1_at (a := 47) (b := 2) (k := 47) (i := 1) (by decide)]
      have b23 : (0 : Int) ≤ v20.toInt ∧ v20.toInt ≤ 48 := by rw [e21]; exact Iv_47_2 i18
      intro v24 e25
      have b26 := vg_add e25 (by omega) (by omega)
      refine And.intro (Nat.le_of_ble_eq_true rfl) (And.intro ⟨(Int32.ofInt 48), v24, rfl, trivial⟩ ?_)
      intro v27 s29 h28
      have h28 : s29 = s16 ∧ (v27.toInt ≤ (Int32.ofInt 48).toInt ∧ v27.toInt ≤ v24.toInt ∧ (v27.toInt = (Int32.ofInt 48).toInt ∨ v27.toInt = v24.toInt)) := h28
      have i30 : Iv s29 := by rw [h28.1]; exact i18
      have k31 : Kp s0 s29 := by rw [h28.1]; exact k19
      have q32 := h28.2
      intro s33 e34
      have i35 : Iv s33 := Iv.c1 (lo := 0) (hi := 48) i30 e34 rfl (by omega) (by omega)
      have k36 : Kp s0 s33 := Kp.u1 k31 e34 rfl
      intro v37 e38
      have g39 : s29.1 47 3 = v37 := by rw [e38, e34, vg_u1_at (a := 47) (b := 3) (k := 47) (i := 2) (by decide)]
      intro v40 e41
      intro s42 e43
      have i44 : Iv s42 := Iv.u1 i35 e43 rfl
      have k45 : Kp s0 s42 := Kp.u1 k36 e43 rfl
      show Iv s42 ∧ Kp s0 s42 ∧ (True)
      exact ⟨i44, k45, (trivial)⟩
  ·
    have z1 : (Int32.ofInt 1).toInt = 1 := by decide
    have z48 : (Int32.ofInt 48).toInt = 48 := by decide
    have z63 : (Int32.ofInt 63).toInt = 63 := by decide
    refine ⟨Nat.le_of_ble_eq_true rfl, [], ?_, fun _ h => absurd h List.not_mem_nil⟩
    ·
      intro v1 e2
      have g3 : s0.1 49 1 = v1 := by rw [e2]
      intro v4 e5
      intro v6 e7
      have b8 := vg_and e7 (by omega)
      intro s9 e10
      have i11 : Iv s9 := Iv.u1 i0 e10 rfl
      have k12 : Kp s0 s9 := Kp.u1 Kp.rf e10 rfl
      intro v13 e14
      have w15 : v6 = v13 := by rw [e14, e10]; exact vg_u1_self.symm
      subst w15
      refine And.intro ⟨by omega, by omega⟩ ?_
      intro s16 e17
      have i18 : Iv s16 := Iv.a1 i11 e17 rfl
      have k19 : Kp s0 s16 := Kp.u1 k12 e17 rfl
      intro v20 e21
      have g22 : s0.1 49 2 = v20 := by rw [e21, e17, vg_u1_ne (a := 49) (k := 50) (by decide), e10, vg_u1_at (a := 49) (b := 2) (k := 49) (i := 1) (by decide)]
      have b23 : (0 : Int) ≤ v20.toInt ∧ v20.toInt ≤ 48 := by rw [e21]; exact Iv_49_2 i18
      intro v24 e25
      have b26 := vg_add e25 (by omega) (by omega)
      refine And.intro (Nat.le_of_ble_eq_true rfl) (And.intro ⟨(Int32.ofInt 48), v24, rfl, trivial⟩ ?_)
      intro v27 s29 h28
      have h28 : s29 = s16 ∧ (v27.toInt ≤ (Int32.ofInt 48).toInt ∧ v27.toInt ≤ v24.toInt ∧ (v27.toInt = (Int32.ofInt 48).toInt ∨ v27.toInt = v24.toInt)) := h28
      have i30 : Iv s29 := by rw [h28.1]; exact i18
      have k31 : Kp s0 s29 := by rw [h28.1]; exact k19
      have q32 := h28.2
      intro s33 e34
      have i35 : Iv s33 := Iv.c1 (lo := 0) (hi := 48) i30 e34 rfl (by omega) (by omega)
      have k36 : Kp s0 s33 := Kp.u1 k31 e34 rfl
      intro v37 e38
      have g39 : s29.1 49 3 = v37 := by rw [e38, e34, vg_u1_at (a := 49) (b := 3) (k := 49) (i := 2) (by decide)]
      intro v40 e41
      intro s42 e43
      have i44 : Iv s42 := Iv.u1 i35 e43 rfl
      have k45 : Kp s0 s42 := Kp.u1 k36 e43 rfl
      show Iv s42 ∧ Kp s0 s42 ∧ (True)
      exact ⟨i44, k45, (trivial)⟩
  ·
    have z1 : (Int32.ofInt 1).toInt = 1 := by decide
    have z48 : (Int32.ofInt 48).toInt = 48 := by decide
    have z63 : (Int32.ofInt 63).toInt = 63 := by decide
    refine ⟨Nat.le_of_ble_eq_true rfl, [], ?_, fun _ h => absurd h List.not_mem_nil⟩
    ·
      intro v1 e2
      have g3 : s0.1 51 1 = v1 := by rw [e2]
      intro v4 e5
      intro v6 e7
      have b8 := vg_and e7 (by omega)
      intro s9 e10
      have i11 : Iv s9 := Iv.u1 i0 e10 rfl
      have k12 : Kp s0 s9 := Kp.u1 Kp.rf e10 rfl
      intro v13 e14
      have w15 : v6 = v13 := by rw [e14, e10]; exact vg_u1_self.symm
      subst w15
      refine And.intro ⟨by omega, by omega⟩ ?_
      intro s16 e17
      have i18 : Iv s16 := Iv.a1 i11 e17 rfl
      have k19 : Kp s0 s16 := Kp.u1 k12 e17 rfl
      intro v20 e21
      have g22 : s0.1 51 2 = v20 := by rw [e21, e17, vg_u1_ne (a := 51) (k := 52) (by decide), e10, vg_u1_at (a := 51) (b := 2) (k := 51) (i := 1) (by decide)]
      have b23 : (0 : Int) ≤ v20.toInt ∧ v20.toInt ≤ 48 := by rw [e21]; exact Iv_51_2 i18
      intro v24 e25
      have b26 := vg_add e25 (by omega) (by omega)
      refine And.intro (Nat.le_of_ble_eq_true rfl) (And.intro ⟨(Int32.ofInt 48), v24, rfl, trivial⟩ ?_)
      intro v27 s29 h28
      have h28 : s29 = s16 ∧ (v27.toInt ≤ (Int32.ofInt 48).toInt ∧ v27.toInt ≤ v24.toInt ∧ (v27.toInt = (Int32.ofInt 48).toInt ∨ v27.toInt = v24.toInt)) := h28
      have i30 : Iv s29 := by rw [h28.1]; exact i18
      have k31 : Kp s0 s29 := by rw [h28.1]; exact k19
      have q32 := h28.2
      intro s33 e34
      have i35 : Iv s33 := Iv.c1 (lo := 0) (hi := 48) i30 e34 rfl (by omega) (by omega)
      have k36 : Kp s0 s33 := Kp.u1 k31 e34 rfl
      intro v37 e38
      have g39 : s29.1 51 3 = v37 := by rw [e38, e34, vg_u1_at (a := 51) (b := 3) (k := 51) (i := 2) (by decide)]
      intro v40 e41
      intro s42 e43
      have i44 : Iv s42 := Iv.u1 i35 e43 rfl
      have k45 : Kp s0 s42 := Kp.u1 k36 e43 rfl
      show Iv s42 ∧ Kp s0 s42 ∧ (True)
      exact ⟨i44, k45, (trivial)⟩
  ·
    have z1 : (Int32.ofInt 1).toInt = 1 := by decide
    have z48 : (Int32.ofInt 48).toInt = 48 := by decide
    have z63 : (Int32.ofInt 63).toInt = 63 := by decide
    refine ⟨Nat.le_of_ble_eq_true rfl, [], ?_, fun _ h => absurd h List.not_mem_nil⟩
    ·
      intro v1 e2
      have g3 : s0.1 53 1 = v1 := by rw [e2]
      intro v4 e5
      intro v6 e7
      have b8 := vg_and e7 (by omega)
      intro s9 e10
      have i11 : Iv s9 := Iv.u1 i0 e10 rfl
      have k12 : Kp s0 s9 := Kp.u1 Kp.rf e10 rfl
      intro v13 e14
      have w15 : v6 = v13 := by rw [e14, e10]; exact vg_u1_self.symm
      subst w15
      refine And.intro ⟨by omega, by omega⟩ ?_
      intro s16 e17
      have i18 : Iv s16 := Iv.a1 i11 e17 rfl
      have k19 : Kp s0 s16 := Kp.u1 k12 e17 rfl
      intro v20 e21
      have g22 : s0.1 53 2 = v20 := by rw [e21, e17, vg_u1_ne (a := 53) (k := 54) (by decide), e10, vg_u1_at (a := 53) (b := 2) (k := 53) (i := 1) (by decide)]
      have b23 : (0 : Int) ≤ v20.toInt ∧ v20.toInt ≤ 48 := by rw [e21]; exact Iv_53_2 i18
      intro v24 e25
      have b26 := vg_add e25 (by omega) (by omega)
      refine And.intro (Nat.le_of_ble_eq_true rfl) (And.intro ⟨(Int32.ofInt 48), v24, rfl, trivial⟩ ?_)
      intro v27 s29 h28
      have h28 : s29 = s16 ∧ (v27.toInt ≤ (Int32.ofInt 48).toInt ∧ v27.toInt ≤ v24.toInt ∧ (v27.toInt = (Int32.ofInt 48).toInt ∨ v27.toInt = v24.toInt)) := h28
      have i30 : Iv s29 := by rw [h28.1]; exact i18
      have k31 : Kp s0 s29 := by rw [h28.1]; exact k19
      have q32 := h28.2
      intro s33 e34
      have i35 : Iv s33 := Iv.c1 (lo := 0) (hi := 48) i30 e34 rfl (by omega) (by omega)
      have k36 : Kp s0 s33 := Kp.u1 k31 e34 rfl
      intro v37 e38
      have g39 : s29.1 53 3 = v37 := by rw [e38, e34, vg_u1_at (a := 53) (b := 3) (k := 53) (i := 2) (by decide)]
      intro v40 e41
      intro s42 e43
      have i44 : Iv s42 := Iv.u1 i35 e43 rfl
      have k45 : Kp s0 s42 := Kp.u1 k36 e43 rfl
      show Iv s42 ∧ Kp s0 s42 ∧ (True)
      exact ⟨i44, k45, (trivial)⟩
end
