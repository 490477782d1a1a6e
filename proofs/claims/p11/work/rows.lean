section
-- ===== PART A: goes FIRST, ahead of the names: the tables' words, and 'selects' of the private methods out of them =====
/-- a private method of a class that the tables say can be made, by its rows of tables_1 -/
def lw_okq (q : MethodName × Nat) : Prop := (q.1.cls ≠ "java/lang/invoke/MethodHandle" ∧ q.1.cls ≠ "java/lang/invoke/VarHandle") ∧ Cond.instantiable q.1.cls q.2 ∈ tables_1 ∧ Cond.privateMethod q.1 ∈ tables_1 ∧ Cond.instanceMethod q.1 ∈ tables_1
theorem lw_p0 : lw_okq (⟨"NoiseShaper", "refuse", "(I)I"⟩, 14) := ⟨⟨by decide +kernel, by decide +kernel⟩, List.mem_of_getElem? (i := 18) (by decide +kernel), List.mem_of_getElem? (i := 412) (by decide +kernel), List.mem_of_getElem? (i := 413) (by decide +kernel)⟩
theorem lw_p1 : lw_okq (⟨"NoiseShaper", "beginAnewFrom", "(I)V"⟩, 14) := ⟨⟨by decide +kernel, by decide +kernel⟩, List.mem_of_getElem? (i := 18) (by decide +kernel), List.mem_of_getElem? (i := 416) (by decide +kernel), List.mem_of_getElem? (i := 417) (by decide +kernel)⟩
theorem lw_p2 : lw_okq (⟨"NoiseShaper", "answer", "(I)I"⟩, 14) := ⟨⟨by decide +kernel, by decide +kernel⟩, List.mem_of_getElem? (i := 18) (by decide +kernel), List.mem_of_getElem? (i := 448) (by decide +kernel), List.mem_of_getElem? (i := 449) (by decide +kernel)⟩
theorem lw_p3 : lw_okq (⟨"NoiseShaper$Elements", "weightsOf", "(I)I"⟩, 11) := ⟨⟨by decide +kernel, by decide +kernel⟩, List.mem_of_getElem? (i := 161) (by decide +kernel), List.mem_of_getElem? (i := 488) (by decide +kernel), List.mem_of_getElem? (i := 489) (by decide +kernel)⟩
theorem lw_p4 : lw_okq (⟨"NoiseShaper", "oneClock", "()V"⟩, 14) := ⟨⟨by decide +kernel, by decide +kernel⟩, List.mem_of_getElem? (i := 18) (by decide +kernel), List.mem_of_getElem? (i := 544) (by decide +kernel), List.mem_of_getElem? (i := 545) (by decide +kernel)⟩
theorem lw_p5 : lw_okq (⟨"NoiseShaper$Source", "numberUnbound", "(I)I"⟩, 5) := ⟨⟨by decide +kernel, by decide +kernel⟩, List.mem_of_getElem? (i := 26) (by decide +kernel), List.mem_of_getElem? (i := 552) (by decide +kernel), List.mem_of_getElem? (i := 553) (by decide +kernel)⟩
theorem lw_p6 : lw_okq (⟨"NoiseShaper$Loop", "outOf", "(I)I"⟩, 14) := ⟨⟨by decide +kernel, by decide +kernel⟩, List.mem_of_getElem? (i := 54) (by decide +kernel), List.mem_of_getElem? (i := 573) (by decide +kernel), List.mem_of_getElem? (i := 574) (by decide +kernel)⟩
theorem lw_p7 : lw_okq (⟨"NoiseShaper$Loop", "drawDither", "()I"⟩, 14) := ⟨⟨by decide +kernel, by decide +kernel⟩, List.mem_of_getElem? (i := 54) (by decide +kernel), List.mem_of_getElem? (i := 577) (by decide +kernel), List.mem_of_getElem? (i := 578) (by decide +kernel)⟩
theorem lw_p8 : lw_okq (⟨"NoiseShaper$Loop", "outOfSums", "(II)I"⟩, 14) := ⟨⟨by decide +kernel, by decide +kernel⟩, List.mem_of_getElem? (i := 54) (by decide +kernel), List.mem_of_getElem? (i := 585) (by decide +kernel), List.mem_of_getElem? (i := 586) (by decide +kernel)⟩
theorem lw_p9 : lw_okq (⟨"NoiseShaper$Loop", "hold", "(I)I"⟩, 14) := ⟨⟨by decide +kernel, by decide +kernel⟩, List.mem_of_getElem? (i := 54) (by decide +kernel), List.mem_of_getElem? (i := 589) (by decide +kernel), List.mem_of_getElem? (i := 590) (by decide +kernel)⟩
theorem lw_p10 : lw_okq (⟨"NoiseShaper$Loop", "outOfCascade", "(II)I"⟩, 14) := ⟨⟨by decide +kernel, by decide +kernel⟩, List.mem_of_getElem? (i := 54) (by decide +kernel), List.mem_of_getElem? (i := 609) (by decide +kernel), List.mem_of_getElem? (i := 610) (by decide +kernel)⟩
theorem lw_p11 : lw_okq (⟨"NoiseShaper$Loop", "differenceOf", "(II)I"⟩, 14) := ⟨⟨by decide +kernel, by decide +kernel⟩, List.mem_of_getElem? (i := 54) (by decide +kernel), List.mem_of_getElem? (i := 621) (by decide +kernel), List.mem_of_getElem? (i := 622) (by decide +kernel)⟩
theorem lw_p12 : lw_okq (⟨"NoiseShaper$Loop", "outOfErrors", "(II)I"⟩, 14) := ⟨⟨by decide +kernel, by decide +kernel⟩, List.mem_of_getElem? (i := 54) (by decide +kernel), List.mem_of_getElem? (i := 625) (by decide +kernel), List.mem_of_getElem? (i := 626) (by decide +kernel)⟩
theorem lw_p13 : lw_okq (⟨"NoiseShaper$Loop", "shapedErrors", "()I"⟩, 14) := ⟨⟨by decide +kernel, by decide +kernel⟩, List.mem_of_getElem? (i := 54) (by decide +kernel), List.mem_of_getElem? (i := 629) (by decide +kernel), List.mem_of_getElem? (i := 630) (by decide +kernel)⟩
theorem lw_p14 : lw_okq (⟨"NoiseShaper$Elements", "chooseRotated", "(I)I"⟩, 11) := ⟨⟨by decide +kernel, by decide +kernel⟩, List.mem_of_getElem? (i := 161) (by decide +kernel), List.mem_of_getElem? (i := 657) (by decide +kernel), List.mem_of_getElem? (i := 658) (by decide +kernel)⟩
theorem lw_p15 : lw_okq (⟨"NoiseShaper$Elements", "chooseTwice", "(I)I"⟩, 11) := ⟨⟨by decide +kernel, by decide +kernel⟩, List.mem_of_getElem? (i := 161) (by decide +kernel), List.mem_of_getElem? (i := 661) (by decide +kernel), List.mem_of_getElem? (i := 662) (by decide +kernel)⟩
def lw_privs_1 : List (MethodName × Nat) := [(⟨"NoiseShaper", "refuse", "(I)I"⟩, 14), (⟨"NoiseShaper", "beginAnewFrom", "(I)V"⟩, 14), (⟨"NoiseShaper", "answer", "(I)I"⟩, 14), (⟨"NoiseShaper$Elements", "weightsOf", "(I)I"⟩, 11), (⟨"NoiseShaper", "oneClock", "()V"⟩, 14), (⟨"NoiseShaper$Source", "numberUnbound", "(I)I"⟩, 5), (⟨"NoiseShaper$Loop", "outOf", "(I)I"⟩, 14), (⟨"NoiseShaper$Loop", "drawDither", "()I"⟩, 14), (⟨"NoiseShaper$Loop", "outOfSums", "(II)I"⟩, 14), (⟨"NoiseShaper$Loop", "hold", "(I)I"⟩, 14), (⟨"NoiseShaper$Loop", "outOfCascade", "(II)I"⟩, 14), (⟨"NoiseShaper$Loop", "differenceOf", "(II)I"⟩, 14), (⟨"NoiseShaper$Loop", "outOfErrors", "(II)I"⟩, 14), (⟨"NoiseShaper$Loop", "shapedErrors", "()I"⟩, 14), (⟨"NoiseShaper$Elements", "chooseRotated", "(I)I"⟩, 11), (⟨"NoiseShaper$Elements", "chooseTwice", "(I)I"⟩, 11)]
theorem lw_r1 : ∀ q ∈ lw_privs_1, lw_okq q := List.forall_mem_cons.mpr ⟨lw_p0, List.forall_mem_cons.mpr ⟨lw_p1, List.forall_mem_cons.mpr ⟨lw_p2, List.forall_mem_cons.mpr ⟨lw_p3, List.forall_mem_cons.mpr ⟨lw_p4, List.forall_mem_cons.mpr ⟨lw_p5, List.forall_mem_cons.mpr ⟨lw_p6, List.forall_mem_cons.mpr ⟨lw_p7, List.forall_mem_cons.mpr ⟨lw_p8, List.forall_mem_cons.mpr ⟨lw_p9, List.forall_mem_cons.mpr ⟨lw_p10, List.forall_mem_cons.mpr ⟨lw_p11, List.forall_mem_cons.mpr ⟨lw_p12, List.forall_mem_cons.mpr ⟨lw_p13, List.forall_mem_cons.mpr ⟨lw_p14, List.forall_mem_cons.mpr ⟨lw_p15, fun _ h => absurd h List.not_mem_nil⟩⟩⟩⟩⟩⟩⟩⟩⟩⟩⟩⟩⟩⟩⟩⟩
theorem lw_p16 : lw_okq (⟨"NoiseShaper$Elements", "mostDue", "(I)I"⟩, 11) := ⟨⟨by decide +kernel, by decide +kernel⟩, List.mem_of_getElem? (i := 161) (by decide +kernel), List.mem_of_getElem? (i := 665) (by decide +kernel), List.mem_of_getElem? (i := 666) (by decide +kernel)⟩
theorem lw_p17 : lw_okq (⟨"NoiseShaper$Elements", "runUpDebts", "(I)V"⟩, 11) := ⟨⟨by decide +kernel, by decide +kernel⟩, List.mem_of_getElem? (i := 161) (by decide +kernel), List.mem_of_getElem? (i := 669) (by decide +kernel), List.mem_of_getElem? (i := 670) (by decide +kernel)⟩
theorem lw_p18 : lw_okq (⟨"NoiseShaper", "handToFolds", "(I)V"⟩, 14) := ⟨⟨by decide +kernel, by decide +kernel⟩, List.mem_of_getElem? (i := 18) (by decide +kernel), List.mem_of_getElem? (i := 691) (by decide +kernel), List.mem_of_getElem? (i := 692) (by decide +kernel)⟩
theorem lw_p19 : lw_okq (⟨"NoiseShaper", "answerLong", "(J)J"⟩, 14) := ⟨⟨by decide +kernel, by decide +kernel⟩, List.mem_of_getElem? (i := 18) (by decide +kernel), List.mem_of_getElem? (i := 728) (by decide +kernel), List.mem_of_getElem? (i := 729) (by decide +kernel)⟩
theorem lw_p20 : lw_okq (⟨"NoiseShaper", "keptByLoop", "()I"⟩, 14) := ⟨⟨by decide +kernel, by decide +kernel⟩, List.mem_of_getElem? (i := 18) (by decide +kernel), List.mem_of_getElem? (i := 737) (by decide +kernel), List.mem_of_getElem? (i := 738) (by decide +kernel)⟩
theorem lw_p21 : lw_okq (⟨"NoiseShaper", "greatestGapOf", "(I)J"⟩, 14) := ⟨⟨by decide +kernel, by decide +kernel⟩, List.mem_of_getElem? (i := 18) (by decide +kernel), List.mem_of_getElem? (i := 742) (by decide +kernel), List.mem_of_getElem? (i := 743) (by decide +kernel)⟩
theorem lw_p22 : lw_okq (⟨"NoiseShaper$Taps", "manyOf", "(II)I"⟩, 2) := ⟨⟨by decide +kernel, by decide +kernel⟩, List.mem_of_getElem? (i := 256) (by decide +kernel), List.mem_of_getElem? (i := 808) (by decide +kernel), List.mem_of_getElem? (i := 809) (by decide +kernel)⟩
theorem lw_p23 : lw_okq (⟨"NoiseShaper$Comb", "foldByOnes", "()V"⟩, 10) := ⟨⟨by decide +kernel, by decide +kernel⟩, List.mem_of_getElem? (i := 212) (by decide +kernel), List.mem_of_getElem? (i := 834) (by decide +kernel), List.mem_of_getElem? (i := 835) (by decide +kernel)⟩
theorem lw_p24 : lw_okq (⟨"NoiseShaper$Tone", "findOrPut", "(I)I"⟩, 6) := ⟨⟨by decide +kernel, by decide +kernel⟩, List.mem_of_getElem? (i := 288) (by decide +kernel), List.mem_of_getElem? (i := 895) (by decide +kernel), List.mem_of_getElem? (i := 896) (by decide +kernel)⟩
theorem lw_p25 : lw_okq (⟨"NoiseShaper$Tone", "cellOf", "(I)I"⟩, 6) := ⟨⟨by decide +kernel, by decide +kernel⟩, List.mem_of_getElem? (i := 288) (by decide +kernel), List.mem_of_getElem? (i := 899) (by decide +kernel), List.mem_of_getElem? (i := 900) (by decide +kernel)⟩
theorem lw_p26 : lw_okq (⟨"NoiseShaper$Tone", "isSame", "(II)Z"⟩, 6) := ⟨⟨by decide +kernel, by decide +kernel⟩, List.mem_of_getElem? (i := 288) (by decide +kernel), List.mem_of_getElem? (i := 904) (by decide +kernel), List.mem_of_getElem? (i := 905) (by decide +kernel)⟩
theorem lw_p27 : lw_okq (⟨"NoiseShaper$Tone", "patternAt", "(I)I"⟩, 6) := ⟨⟨by decide +kernel, by decide +kernel⟩, List.mem_of_getElem? (i := 288) (by decide +kernel), List.mem_of_getElem? (i := 913) (by decide +kernel), List.mem_of_getElem? (i := 914) (by decide +kernel)⟩
theorem lw_p28 : lw_okq (⟨"NoiseShaper", "hitClocksAhead", "(II)I"⟩, 14) := ⟨⟨by decide +kernel, by decide +kernel⟩, List.mem_of_getElem? (i := 18) (by decide +kernel), List.mem_of_getElem? (i := 973) (by decide +kernel), List.mem_of_getElem? (i := 974) (by decide +kernel)⟩
theorem lw_p29 : lw_okq (⟨"NoiseShaperModel", "refuse", "(I)I"⟩, 35) := ⟨⟨by decide +kernel, by decide +kernel⟩, List.mem_of_getElem? (i := 982) (by decide +kernel), List.mem_of_getElem? (i := 1109) (by decide +kernel), List.mem_of_getElem? (i := 1110) (by decide +kernel)⟩
theorem lw_p30 : lw_okq (⟨"NoiseShaperModel", "begins", "(I)V"⟩, 35) := ⟨⟨by decide +kernel, by decide +kernel⟩, List.mem_of_getElem? (i := 982) (by decide +kernel), List.mem_of_getElem? (i := 1113) (by decide +kernel), List.mem_of_getElem? (i := 1114) (by decide +kernel)⟩
theorem lw_p31 : lw_okq (⟨"NoiseShaperModel", "wipes", "(II)V"⟩, 35) := ⟨⟨by decide +kernel, by decide +kernel⟩, List.mem_of_getElem? (i := 982) (by decide +kernel), List.mem_of_getElem? (i := 1117) (by decide +kernel), List.mem_of_getElem? (i := 1118) (by decide +kernel)⟩
def lw_privs_2 : List (MethodName × Nat) := [(⟨"NoiseShaper$Elements", "mostDue", "(I)I"⟩, 11), (⟨"NoiseShaper$Elements", "runUpDebts", "(I)V"⟩, 11), (⟨"NoiseShaper", "handToFolds", "(I)V"⟩, 14), (⟨"NoiseShaper", "answerLong", "(J)J"⟩, 14), (⟨"NoiseShaper", "keptByLoop", "()I"⟩, 14), (⟨"NoiseShaper", "greatestGapOf", "(I)J"⟩, 14), (⟨"NoiseShaper$Taps", "manyOf", "(II)I"⟩, 2), (⟨"NoiseShaper$Comb", "foldByOnes", "()V"⟩, 10), (⟨"NoiseShaper$Tone", "findOrPut", "(I)I"⟩, 6), (⟨"NoiseShaper$Tone", "cellOf", "(I)I"⟩, 6), (⟨"NoiseShaper$Tone", "isSame", "(II)Z"⟩, 6), (⟨"NoiseShaper$Tone", "patternAt", "(I)I"⟩, 6), (⟨"NoiseShaper", "hitClocksAhead", "(II)I"⟩, 14), (⟨"NoiseShaperModel", "refuse", "(I)I"⟩, 35), (⟨"NoiseShaperModel", "begins", "(I)V"⟩, 35), (⟨"NoiseShaperModel", "wipes", "(II)V"⟩, 35)]
theorem lw_r2 : ∀ q ∈ lw_privs_2, lw_okq q := List.forall_mem_cons.mpr ⟨lw_p16, List.forall_mem_cons.mpr ⟨lw_p17, List.forall_mem_cons.mpr ⟨lw_p18, List.forall_mem_cons.mpr ⟨lw_p19, List.forall_mem_cons.mpr ⟨lw_p20, List.forall_mem_cons.mpr ⟨lw_p21, List.forall_mem_cons.mpr ⟨lw_p22, List.forall_mem_cons.mpr ⟨lw_p23, List.forall_mem_cons.mpr ⟨lw_p24, List.forall_mem_cons.mpr ⟨lw_p25, List.forall_mem_cons.mpr ⟨lw_p26, List.forall_mem_cons.mpr ⟨lw_p27, List.forall_mem_cons.mpr ⟨lw_p28, List.forall_mem_cons.mpr ⟨lw_p29, List.forall_mem_cons.mpr ⟨lw_p30, List.forall_mem_cons.mpr ⟨lw_p31, fun _ h => absurd h List.not_mem_nil⟩⟩⟩⟩⟩⟩⟩⟩⟩⟩⟩⟩⟩⟩⟩⟩
theorem lw_p32 : lw_okq (⟨"NoiseShaperModel", "beginsLoop", "()V"⟩, 35) := ⟨⟨by decide +kernel, by decide +kernel⟩, List.mem_of_getElem? (i := 982) (by decide +kernel), List.mem_of_getElem? (i := 1121) (by decide +kernel), List.mem_of_getElem? (i := 1122) (by decide +kernel)⟩
theorem lw_p33 : lw_okq (⟨"NoiseShaperModel", "beginsElements", "()V"⟩, 35) := ⟨⟨by decide +kernel, by decide +kernel⟩, List.mem_of_getElem? (i := 982) (by decide +kernel), List.mem_of_getElem? (i := 1125) (by decide +kernel), List.mem_of_getElem? (i := 1126) (by decide +kernel)⟩
theorem lw_p34 : lw_okq (⟨"NoiseShaperModel", "get", "(I)I"⟩, 35) := ⟨⟨by decide +kernel, by decide +kernel⟩, List.mem_of_getElem? (i := 982) (by decide +kernel), List.mem_of_getElem? (i := 1130) (by decide +kernel), List.mem_of_getElem? (i := 1131) (by decide +kernel)⟩
theorem lw_p35 : lw_okq (⟨"NoiseShaperModel", "gives", "(I)I"⟩, 35) := ⟨⟨by decide +kernel, by decide +kernel⟩, List.mem_of_getElem? (i := 982) (by decide +kernel), List.mem_of_getElem? (i := 1134) (by decide +kernel), List.mem_of_getElem? (i := 1135) (by decide +kernel)⟩
theorem lw_p36 : lw_okq (⟨"NoiseShaperModel", "elements", "()I"⟩, 35) := ⟨⟨by decide +kernel, by decide +kernel⟩, List.mem_of_getElem? (i := 982) (by decide +kernel), List.mem_of_getElem? (i := 1146) (by decide +kernel), List.mem_of_getElem? (i := 1147) (by decide +kernel)⟩
theorem lw_p37 : lw_okq (⟨"NoiseShaperModel", "weights", "()I"⟩, 35) := ⟨⟨by decide +kernel, by decide +kernel⟩, List.mem_of_getElem? (i := 982) (by decide +kernel), List.mem_of_getElem? (i := 1166) (by decide +kernel), List.mem_of_getElem? (i := 1167) (by decide +kernel)⟩
theorem lw_p38 : lw_okq (⟨"NoiseShaperModel", "weight", "(I)I"⟩, 35) := ⟨⟨by decide +kernel, by decide +kernel⟩, List.mem_of_getElem? (i := 982) (by decide +kernel), List.mem_of_getElem? (i := 1170) (by decide +kernel), List.mem_of_getElem? (i := 1171) (by decide +kernel)⟩
theorem lw_p39 : lw_okq (⟨"NoiseShaperModel", "needFor", "(I)I"⟩, 35) := ⟨⟨by decide +kernel, by decide +kernel⟩, List.mem_of_getElem? (i := 982) (by decide +kernel), List.mem_of_getElem? (i := 1174) (by decide +kernel), List.mem_of_getElem? (i := 1175) (by decide +kernel)⟩
theorem lw_p40 : lw_okq (⟨"NoiseShaperModel", "goes", "()V"⟩, 35) := ⟨⟨by decide +kernel, by decide +kernel⟩, List.mem_of_getElem? (i := 982) (by decide +kernel), List.mem_of_getElem? (i := 1200) (by decide +kernel), List.mem_of_getElem? (i := 1201) (by decide +kernel)⟩
theorem lw_p41 : lw_okq (⟨"NoiseShaperModel", "sourceAt", "(I)I"⟩, 35) := ⟨⟨by decide +kernel, by decide +kernel⟩, List.mem_of_getElem? (i := 982) (by decide +kernel), List.mem_of_getElem? (i := 1204) (by decide +kernel), List.mem_of_getElem? (i := 1205) (by decide +kernel)⟩
theorem lw_p42 : lw_okq (⟨"NoiseShaperModel", "tells", "(IJ)V"⟩, 35) := ⟨⟨by decide +kernel, by decide +kernel⟩, List.mem_of_getElem? (i := 982) (by decide +kernel), List.mem_of_getElem? (i := 1209) (by decide +kernel), List.mem_of_getElem? (i := 1210) (by decide +kernel)⟩
theorem lw_p43 : lw_okq (⟨"NoiseShaperModel", "drawn", "()I"⟩, 35) := ⟨⟨by decide +kernel, by decide +kernel⟩, List.mem_of_getElem? (i := 982) (by decide +kernel), List.mem_of_getElem? (i := 1213) (by decide +kernel), List.mem_of_getElem? (i := 1214) (by decide +kernel)⟩
theorem lw_p44 : lw_okq (⟨"NoiseShaperModel", "loops", "(II)I"⟩, 35) := ⟨⟨by decide +kernel, by decide +kernel⟩, List.mem_of_getElem? (i := 982) (by decide +kernel), List.mem_of_getElem? (i := 1221) (by decide +kernel), List.mem_of_getElem? (i := 1222) (by decide +kernel)⟩
theorem lw_p45 : lw_okq (⟨"NoiseShaperModel", "byErrors", "(II)I"⟩, 35) := ⟨⟨by decide +kernel, by decide +kernel⟩, List.mem_of_getElem? (i := 982) (by decide +kernel), List.mem_of_getElem? (i := 1225) (by decide +kernel), List.mem_of_getElem? (i := 1226) (by decide +kernel)⟩
theorem lw_p46 : lw_okq (⟨"NoiseShaperModel", "nearest", "(I)I"⟩, 35) := ⟨⟨by decide +kernel, by decide +kernel⟩, List.mem_of_getElem? (i := 982) (by decide +kernel), List.mem_of_getElem? (i := 1229) (by decide +kernel), List.mem_of_getElem? (i := 1230) (by decide +kernel)⟩
theorem lw_p47 : lw_okq (⟨"NoiseShaperModel", "valueOf", "(I)I"⟩, 35) := ⟨⟨by decide +kernel, by decide +kernel⟩, List.mem_of_getElem? (i := 982) (by decide +kernel), List.mem_of_getElem? (i := 1233) (by decide +kernel), List.mem_of_getElem? (i := 1234) (by decide +kernel)⟩
def lw_privs_3 : List (MethodName × Nat) := [(⟨"NoiseShaperModel", "beginsLoop", "()V"⟩, 35), (⟨"NoiseShaperModel", "beginsElements", "()V"⟩, 35), (⟨"NoiseShaperModel", "get", "(I)I"⟩, 35), (⟨"NoiseShaperModel", "gives", "(I)I"⟩, 35), (⟨"NoiseShaperModel", "elements", "()I"⟩, 35), (⟨"NoiseShaperModel", "weights", "()I"⟩, 35), (⟨"NoiseShaperModel", "weight", "(I)I"⟩, 35), (⟨"NoiseShaperModel", "needFor", "(I)I"⟩, 35), (⟨"NoiseShaperModel", "goes", "()V"⟩, 35), (⟨"NoiseShaperModel", "sourceAt", "(I)I"⟩, 35), (⟨"NoiseShaperModel", "tells", "(IJ)V"⟩, 35), (⟨"NoiseShaperModel", "drawn", "()I"⟩, 35), (⟨"NoiseShaperModel", "loops", "(II)I"⟩, 35), (⟨"NoiseShaperModel", "byErrors", "(II)I"⟩, 35), (⟨"NoiseShaperModel", "nearest", "(I)I"⟩, 35), (⟨"NoiseShaperModel", "valueOf", "(I)I"⟩, 35)]
theorem lw_r3 : ∀ q ∈ lw_privs_3, lw_okq q := List.forall_mem_cons.mpr ⟨lw_p32, List.forall_mem_cons.mpr ⟨lw_p33, List.forall_mem_cons.mpr ⟨lw_p34, List.forall_mem_cons.mpr ⟨lw_p35, List.forall_mem_cons.mpr ⟨lw_p36, List.forall_mem_cons.mpr ⟨lw_p37, List.forall_mem_cons.mpr ⟨lw_p38, List.forall_mem_cons.mpr ⟨lw_p39, List.forall_mem_cons.mpr ⟨lw_p40, List.forall_mem_cons.mpr ⟨lw_p41, List.forall_mem_cons.mpr ⟨lw_p42, List.forall_mem_cons.mpr ⟨lw_p43, List.forall_mem_cons.mpr ⟨lw_p44, List.forall_mem_cons.mpr ⟨lw_p45, List.forall_mem_cons.mpr ⟨lw_p46, List.forall_mem_cons.mpr ⟨lw_p47, fun _ h => absurd h List.not_mem_nil⟩⟩⟩⟩⟩⟩⟩⟩⟩⟩⟩⟩⟩⟩⟩⟩
theorem lw_p48 : lw_okq (⟨"NoiseShaperModel", "held", "(I)I"⟩, 35) := ⟨⟨by decide +kernel, by decide +kernel⟩, List.mem_of_getElem? (i := 982) (by decide +kernel), List.mem_of_getElem? (i := 1238) (by decide +kernel), List.mem_of_getElem? (i := 1239) (by decide +kernel)⟩
theorem lw_p49 : lw_okq (⟨"NoiseShaperModel", "bySums", "(II)I"⟩, 35) := ⟨⟨by decide +kernel, by decide +kernel⟩, List.mem_of_getElem? (i := 982) (by decide +kernel), List.mem_of_getElem? (i := 1242) (by decide +kernel), List.mem_of_getElem? (i := 1243) (by decide +kernel)⟩
theorem lw_p50 : lw_okq (⟨"NoiseShaperModel", "byCascade", "(II)I"⟩, 35) := ⟨⟨by decide +kernel, by decide +kernel⟩, List.mem_of_getElem? (i := 982) (by decide +kernel), List.mem_of_getElem? (i := 1246) (by decide +kernel), List.mem_of_getElem? (i := 1247) (by decide +kernel)⟩
theorem lw_p51 : lw_okq (⟨"NoiseShaperModel", "besides", "()I"⟩, 35) := ⟨⟨by decide +kernel, by decide +kernel⟩, List.mem_of_getElem? (i := 982) (by decide +kernel), List.mem_of_getElem? (i := 1250) (by decide +kernel), List.mem_of_getElem? (i := 1251) (by decide +kernel)⟩
theorem lw_p52 : lw_okq (⟨"NoiseShaperModel", "goesElements", "(I)I"⟩, 35) := ⟨⟨by decide +kernel, by decide +kernel⟩, List.mem_of_getElem? (i := 982) (by decide +kernel), List.mem_of_getElem? (i := 1256) (by decide +kernel), List.mem_of_getElem? (i := 1257) (by decide +kernel)⟩
theorem lw_p53 : lw_okq (⟨"NoiseShaperModel", "wouldBeOn", "(I)I"⟩, 35) := ⟨⟨by decide +kernel, by decide +kernel⟩, List.mem_of_getElem? (i := 982) (by decide +kernel), List.mem_of_getElem? (i := 1260) (by decide +kernel), List.mem_of_getElem? (i := 1261) (by decide +kernel)⟩
theorem lw_p54 : lw_okq (⟨"NoiseShaperModel", "combs", "(J)Z"⟩, 35) := ⟨⟨by decide +kernel, by decide +kernel⟩, List.mem_of_getElem? (i := 982) (by decide +kernel), List.mem_of_getElem? (i := 1273) (by decide +kernel), List.mem_of_getElem? (i := 1274) (by decide +kernel)⟩
theorem lw_p55 : lw_okq (⟨"NoiseShaperModel", "worded", "(J)J"⟩, 35) := ⟨⟨by decide +kernel, by decide +kernel⟩, List.mem_of_getElem? (i := 982) (by decide +kernel), List.mem_of_getElem? (i := 1277) (by decide +kernel), List.mem_of_getElem? (i := 1278) (by decide +kernel)⟩
theorem lw_p56 : lw_okq (⟨"NoiseShaperModel", "latestOf", "(II)J"⟩, 35) := ⟨⟨by decide +kernel, by decide +kernel⟩, List.mem_of_getElem? (i := 982) (by decide +kernel), List.mem_of_getElem? (i := 1281) (by decide +kernel), List.mem_of_getElem? (i := 1282) (by decide +kernel)⟩
theorem lw_p57 : lw_okq (⟨"NoiseShaperModel", "folds", "(IJ)Z"⟩, 35) := ⟨⟨by decide +kernel, by decide +kernel⟩, List.mem_of_getElem? (i := 982) (by decide +kernel), List.mem_of_getElem? (i := 1285) (by decide +kernel), List.mem_of_getElem? (i := 1286) (by decide +kernel)⟩
theorem lw_p58 : lw_okq (⟨"NoiseShaperModel", "tapMany", "(I)I"⟩, 35) := ⟨⟨by decide +kernel, by decide +kernel⟩, List.mem_of_getElem? (i := 982) (by decide +kernel), List.mem_of_getElem? (i := 1289) (by decide +kernel), List.mem_of_getElem? (i := 1290) (by decide +kernel)⟩
theorem lw_p59 : lw_okq (⟨"NoiseShaperModel", "tapOf", "(II)I"⟩, 35) := ⟨⟨by decide +kernel, by decide +kernel⟩, List.mem_of_getElem? (i := 982) (by decide +kernel), List.mem_of_getElem? (i := 1293) (by decide +kernel), List.mem_of_getElem? (i := 1294) (by decide +kernel)⟩
theorem lw_p60 : lw_okq (⟨"NoiseShaperModel", "shiftOf", "(I)I"⟩, 35) := ⟨⟨by decide +kernel, by decide +kernel⟩, List.mem_of_getElem? (i := 982) (by decide +kernel), List.mem_of_getElem? (i := 1297) (by decide +kernel), List.mem_of_getElem? (i := 1298) (by decide +kernel)⟩
theorem lw_p61 : lw_okq (⟨"NoiseShaperModel", "many", "(I)I"⟩, 35) := ⟨⟨by decide +kernel, by decide +kernel⟩, List.mem_of_getElem? (i := 982) (by decide +kernel), List.mem_of_getElem? (i := 1309) (by decide +kernel), List.mem_of_getElem? (i := 1310) (by decide +kernel)⟩
theorem lw_p62 : lw_okq (⟨"NoiseShaperModel", "givesLong", "(J)J"⟩, 35) := ⟨⟨by decide +kernel, by decide +kernel⟩, List.mem_of_getElem? (i := 982) (by decide +kernel), List.mem_of_getElem? (i := 1321) (by decide +kernel), List.mem_of_getElem? (i := 1322) (by decide +kernel)⟩
theorem lw_p63 : lw_okq (⟨"NoiseShaperModel", "spreadNow", "()I"⟩, 35) := ⟨⟨by decide +kernel, by decide +kernel⟩, List.mem_of_getElem? (i := 982) (by decide +kernel), List.mem_of_getElem? (i := 1345) (by decide +kernel), List.mem_of_getElem? (i := 1346) (by decide +kernel)⟩
def lw_privs_4 : List (MethodName × Nat) := [(⟨"NoiseShaperModel", "held", "(I)I"⟩, 35), (⟨"NoiseShaperModel", "bySums", "(II)I"⟩, 35), (⟨"NoiseShaperModel", "byCascade", "(II)I"⟩, 35), (⟨"NoiseShaperModel", "besides", "()I"⟩, 35), (⟨"NoiseShaperModel", "goesElements", "(I)I"⟩, 35), (⟨"NoiseShaperModel", "wouldBeOn", "(I)I"⟩, 35), (⟨"NoiseShaperModel", "combs", "(J)Z"⟩, 35), (⟨"NoiseShaperModel", "worded", "(J)J"⟩, 35), (⟨"NoiseShaperModel", "latestOf", "(II)J"⟩, 35), (⟨"NoiseShaperModel", "folds", "(IJ)Z"⟩, 35), (⟨"NoiseShaperModel", "tapMany", "(I)I"⟩, 35), (⟨"NoiseShaperModel", "tapOf", "(II)I"⟩, 35), (⟨"NoiseShaperModel", "shiftOf", "(I)I"⟩, 35), (⟨"NoiseShaperModel", "many", "(I)I"⟩, 35), (⟨"NoiseShaperModel", "givesLong", "(J)J"⟩, 35), (⟨"NoiseShaperModel", "spreadNow", "()I"⟩, 35)]
theorem lw_r4 : ∀ q ∈ lw_privs_4, lw_okq q := List.forall_mem_cons.mpr ⟨lw_p48, List.forall_mem_cons.mpr ⟨lw_p49, List.forall_mem_cons.mpr ⟨lw_p50, List.forall_mem_cons.mpr ⟨lw_p51, List.forall_mem_cons.mpr ⟨lw_p52, List.forall_mem_cons.mpr ⟨lw_p53, List.forall_mem_cons.mpr ⟨lw_p54, List.forall_mem_cons.mpr ⟨lw_p55, List.forall_mem_cons.mpr ⟨lw_p56, List.forall_mem_cons.mpr ⟨lw_p57, List.forall_mem_cons.mpr ⟨lw_p58, List.forall_mem_cons.mpr ⟨lw_p59, List.forall_mem_cons.mpr ⟨lw_p60, List.forall_mem_cons.mpr ⟨lw_p61, List.forall_mem_cons.mpr ⟨lw_p62, List.forall_mem_cons.mpr ⟨lw_p63, fun _ h => absurd h List.not_mem_nil⟩⟩⟩⟩⟩⟩⟩⟩⟩⟩⟩⟩⟩⟩⟩⟩
theorem lw_p64 : lw_okq (⟨"NoiseShaperModel", "unlikeNone", "(I)I"⟩, 35) := ⟨⟨by decide +kernel, by decide +kernel⟩, List.mem_of_getElem? (i := 982) (by decide +kernel), List.mem_of_getElem? (i := 1361) (by decide +kernel), List.mem_of_getElem? (i := 1362) (by decide +kernel)⟩
theorem lw_p65 : lw_okq (⟨"NoiseShaperModel", "beatOf", "(II)J"⟩, 35) := ⟨⟨by decide +kernel, by decide +kernel⟩, List.mem_of_getElem? (i := 982) (by decide +kernel), List.mem_of_getElem? (i := 1382) (by decide +kernel), List.mem_of_getElem? (i := 1383) (by decide +kernel)⟩
theorem lw_p66 : lw_okq (⟨"NoiseShaperModel", "asks", "(I)V"⟩, 35) := ⟨⟨by decide +kernel, by decide +kernel⟩, List.mem_of_getElem? (i := 982) (by decide +kernel), List.mem_of_getElem? (i := 1394) (by decide +kernel), List.mem_of_getElem? (i := 1395) (by decide +kernel)⟩
theorem lw_p67 : lw_okq (⟨"NoiseShaperModel", "tones", "(IZ)V"⟩, 35) := ⟨⟨by decide +kernel, by decide +kernel⟩, List.mem_of_getElem? (i := 982) (by decide +kernel), List.mem_of_getElem? (i := 1398) (by decide +kernel), List.mem_of_getElem? (i := 1399) (by decide +kernel)⟩
theorem lw_p68 : lw_okq (⟨"NoiseShaperModel", "lays", "(I)V"⟩, 35) := ⟨⟨by decide +kernel, by decide +kernel⟩, List.mem_of_getElem? (i := 982) (by decide +kernel), List.mem_of_getElem? (i := 1405) (by decide +kernel), List.mem_of_getElem? (i := 1406) (by decide +kernel)⟩
theorem lw_p69 : lw_okq (⟨"NoiseShaperModel", "isLike", "(II)Z"⟩, 35) := ⟨⟨by decide +kernel, by decide +kernel⟩, List.mem_of_getElem? (i := 982) (by decide +kernel), List.mem_of_getElem? (i := 1409) (by decide +kernel), List.mem_of_getElem? (i := 1410) (by decide +kernel)⟩
theorem lw_p70 : lw_okq (⟨"NoiseShaperModel", "ofPattern", "(I)I"⟩, 35) := ⟨⟨by decide +kernel, by decide +kernel⟩, List.mem_of_getElem? (i := 982) (by decide +kernel), List.mem_of_getElem? (i := 1413) (by decide +kernel), List.mem_of_getElem? (i := 1414) (by decide +kernel)⟩
theorem lw_p71 : lw_okq (⟨"NoiseShaperModel", "inPattern", "(I)I"⟩, 35) := ⟨⟨by decide +kernel, by decide +kernel⟩, List.mem_of_getElem? (i := 982) (by decide +kernel), List.mem_of_getElem? (i := 1417) (by decide +kernel), List.mem_of_getElem? (i := 1418) (by decide +kernel)⟩
theorem lw_p72 : lw_okq (⟨"NoiseShaperModel", "strained", "(II)I"⟩, 35) := ⟨⟨by decide +kernel, by decide +kernel⟩, List.mem_of_getElem? (i := 982) (by decide +kernel), List.mem_of_getElem? (i := 1445) (by decide +kernel), List.mem_of_getElem? (i := 1446) (by decide +kernel)⟩
def lw_privs_5 : List (MethodName × Nat) := [(⟨"NoiseShaperModel", "unlikeNone", "(I)I"⟩, 35), (⟨"NoiseShaperModel", "beatOf", "(II)J"⟩, 35), (⟨"NoiseShaperModel", "asks", "(I)V"⟩, 35), (⟨"NoiseShaperModel", "tones", "(IZ)V"⟩, 35), (⟨"NoiseShaperModel", "lays", "(I)V"⟩, 35), (⟨"NoiseShaperModel", "isLike", "(II)Z"⟩, 35), (⟨"NoiseShaperModel", "ofPattern", "(I)I"⟩, 35), (⟨"NoiseShaperModel", "inPattern", "(I)I"⟩, 35), (⟨"NoiseShaperModel", "strained", "(II)I"⟩, 35)]
theorem lw_r5 : ∀ q ∈ lw_privs_5, lw_okq q := List.forall_mem_cons.mpr ⟨lw_p64, List.forall_mem_cons.mpr ⟨lw_p65, List.forall_mem_cons.mpr ⟨lw_p66, List.forall_mem_cons.mpr ⟨lw_p67, List.forall_mem_cons.mpr ⟨lw_p68, List.forall_mem_cons.mpr ⟨lw_p69, List.forall_mem_cons.mpr ⟨lw_p70, List.forall_mem_cons.mpr ⟨lw_p71, List.forall_mem_cons.mpr ⟨lw_p72, fun _ h => absurd h List.not_mem_nil⟩⟩⟩⟩⟩⟩⟩⟩⟩
def lw_privs : List (MethodName × Nat) := lw_privs_1 ++ (lw_privs_2 ++ (lw_privs_3 ++ (lw_privs_4 ++ (lw_privs_5))))
def lw_tbl : List Cond := k2_sels lw_privs ++ tables_1
theorem lw_privs_ok : ∀ q ∈ lw_privs, lw_okq q := by
  show ∀ q ∈ lw_privs_1 ++ (lw_privs_2 ++ (lw_privs_3 ++ (lw_privs_4 ++ (lw_privs_5)))), lw_okq q
  exact List.forall_mem_append.mpr ⟨lw_r1, List.forall_mem_append.mpr ⟨lw_r2, List.forall_mem_append.mpr ⟨lw_r3, List.forall_mem_append.mpr ⟨lw_r4, lw_r5⟩⟩⟩⟩
def RX0 : String := "NoiseShaper$Asked"
def TX0 : u_T := fun k => match k with
  | 0 => ("NoiseShaper$Asked", "numbers", "[I", true)
  | _ => ("NoiseShaper$Asked", "many", "I", false)
def tyX0 : Nat → FieldType := fun k => match k with
  | 0 => .array .int
  | _ => .int
abbrev wsX00 : List Cond := u_ws RX0 TX0 2
theorem nmX0 : ∀ a, a < 2 → ∀ b, b < 2 → a ≠ b → (TX0 a).2.1 ≠ (TX0 b).2.1 := by decide +kernel
theorem tyX0_ok : ∀ k, k < 2 → parseFieldDescriptor (TX0 k).2.2.1 = some (tyX0 k) := by decide +kernel
abbrev cX0_init : ByteArray := prog_2_method_1_code
def yX0_init : MethodName := ⟨RX0, "<init>", "()V"⟩
abbrev cX0_forget : ByteArray := prog_2_method_2_code
def yX0_forget : MethodName := ⟨RX0, "forget", "()V"⟩
abbrev cX0_add : ByteArray := prog_2_method_3_code
def yX0_add : MethodName := ⟨RX0, "add", "(I)V"⟩
def RX1 : String := "NoiseShaper$Comb"
def TX1 : u_T := fun k => match k with
  | 0 => ("NoiseShaper$Comb", "order", "I", false)
  | 1 => ("NoiseShaper$Comb", "ratio", "I", false)
  | 2 => ("NoiseShaper$Comb", "width", "I", false)
  | 3 => ("NoiseShaper$Comb", "in", "I", false)
  | 4 => ("NoiseShaper$Comb", "sums", "[J", true)
  | 5 => ("NoiseShaper$Comb", "before", "[J", true)
  | 6 => ("NoiseShaper$Comb", "waited", "I", false)
  | 7 => ("NoiseShaper$Comb", "wrongs", "I", false)
  | 8 => ("NoiseShaper$Comb", "truth", "J", false)
  | _ => ("NoiseShaper$Comb", "answers", "[I", true)
def tyX1 : Nat → FieldType := fun k => match k with
  | 0 => .int
  | 1 => .int
  | 2 => .int
  | 3 => .int
  | 4 => .array .long
  | 5 => .array .long
  | 6 => .int
  | 7 => .int
  | 8 => .long
  | _ => .array .int
abbrev wsX10 : List Cond := u_ws RX1 TX1 10
theorem nmX1 : ∀ a, a < 10 → ∀ b, b < 10 → a ≠ b → (TX1 a).2.1 ≠ (TX1 b).2.1 := by decide +kernel
theorem tyX1_ok : ∀ k, k < 10 → parseFieldDescriptor (TX1 k).2.2.1 = some (tyX1 k) := by decide +kernel
abbrev cX1_init : ByteArray := prog_3_method_1_code
def yX1_init : MethodName := ⟨RX1, "<init>", "()V"⟩
abbrev cX1_begin : ByteArray := prog_3_method_2_code
def yX1_begin : MethodName := ⟨RX1, "begin", "()V"⟩
abbrev cX1_take : ByteArray := prog_3_method_3_code
def yX1_take : MethodName := ⟨RX1, "take", "(I)Z"⟩
abbrev cX1_number : ByteArray := prog_3_method_4_code
def yX1_number : MethodName := ⟨RX1, "number", "()I"⟩
abbrev cX1_cut : ByteArray := prog_3_method_5_code
def yX1_cut : MethodName := ⟨RX1, "cut", "(J)I"⟩
abbrev cX1_leastWidth : ByteArray := prog_3_method_6_code
def yX1_leastWidth : MethodName := ⟨RX1, "leastWidth", "(I)I"⟩
abbrev cX1_lastOfResponse : ByteArray := prog_3_method_7_code
def yX1_lastOfResponse : MethodName := ⟨RX1, "lastOfResponse", "()I"⟩
abbrev cX1_responseAt : ByteArray := prog_3_method_8_code
def yX1_responseAt : MethodName := ⟨RX1, "responseAt", "(I)I"⟩
abbrev cX1_foldByOnes : ByteArray := prog_3_method_9_code
def yX1_foldByOnes : MethodName := ⟨RX1, "foldByOnes", "()V"⟩
def RX2 : String := "NoiseShaper$Elements"
def TX2 : u_T := fun k => match k with
  | 0 => ("NoiseShaper$Elements", "many", "I", false)
  | 1 => ("NoiseShaper$Elements", "way", "I", false)
  | 2 => ("NoiseShaper$Elements", "pointer", "I", false)
  | 3 => ("NoiseShaper$Elements", "on", "I", false)
  | 4 => ("NoiseShaper$Elements", "deviations", "[I", true)
  | 5 => ("NoiseShaper$Elements", "used", "[I", true)
  | 6 => ("NoiseShaper$Elements", "debts", "[I", true)
  | 7 => ("NoiseShaper$Elements", "debtSums", "[I", true)
  | 8 => ("NoiseShaper$Elements", "drift", "J", false)
  | 9 => ("NoiseShaper$Elements", "greatestDrift", "J", false)
  | _ => ("NoiseShaper$Elements", "analogSum", "J", false)
def tyX2 : Nat → FieldType := fun k => match k with
  | 0 => .int
  | 1 => .int
  | 2 => .int
  | 3 => .int
  | 4 => .array .int
  | 5 => .array .int
  | 6 => .array .int
  | 7 => .array .int
  | 8 => .long
  | 9 => .long
  | _ => .long
abbrev wsX20 : List Cond := u_ws RX2 TX2 11
theorem nmX2 : ∀ a, a < 11 → ∀ b, b < 11 → a ≠ b → (TX2 a).2.1 ≠ (TX2 b).2.1 := by decide +kernel
theorem tyX2_ok : ∀ k, k < 11 → parseFieldDescriptor (TX2 k).2.2.1 = some (tyX2 k) := by decide +kernel
abbrev cX2_init : ByteArray := prog_4_method_1_code
def yX2_init : MethodName := ⟨RX2, "<init>", "()V"⟩
abbrev cX2_begin : ByteArray := prog_4_method_2_code
def yX2_begin : MethodName := ⟨RX2, "begin", "()V"⟩
abbrev cX2_beginLike : ByteArray := prog_4_method_3_code
def yX2_beginLike : MethodName := ⟨RX2, "beginLike", "(LNoiseShaper$Elements;I)V"⟩
abbrev cX2_weight : ByteArray := prog_4_method_4_code
def yX2_weight : MethodName := ⟨RX2, "weight", "(I)I"⟩
abbrev cX2_allWeights : ByteArray := prog_4_method_5_code
def yX2_allWeights : MethodName := ⟨RX2, "allWeights", "()I"⟩
abbrev cX2_unevenness : ByteArray := prog_4_method_6_code
def yX2_unevenness : MethodName := ⟨RX2, "unevenness", "()I"⟩
abbrev cX2_take : ByteArray := prog_4_method_7_code
def yX2_take : MethodName := ⟨RX2, "take", "(I)I"⟩
abbrev cX2_choose : ByteArray := prog_4_method_8_code
def yX2_choose : MethodName := ⟨RX2, "choose", "(I)I"⟩
abbrev cX2_chooseRotated : ByteArray := prog_4_method_9_code
def yX2_chooseRotated : MethodName := ⟨RX2, "chooseRotated", "(I)I"⟩
abbrev cX2_chooseTwice : ByteArray := prog_4_method_10_code
def yX2_chooseTwice : MethodName := ⟨RX2, "chooseTwice", "(I)I"⟩
abbrev cX2_mostDue : ByteArray := prog_4_method_11_code
def yX2_mostDue : MethodName := ⟨RX2, "mostDue", "(I)I"⟩
abbrev cX2_runUpDebts : ByteArray := prog_4_method_12_code
def yX2_runUpDebts : MethodName := ⟨RX2, "runUpDebts", "(I)V"⟩
abbrev cX2_weightsOf : ByteArray := prog_4_method_13_code
def yX2_weightsOf : MethodName := ⟨RX2, "weightsOf", "(I)I"⟩
def RX3 : String := "NoiseShaper$Fold"
def TX3 : u_T := fun k => match k with
  | 0 => ("NoiseShaper$Fold", "taps", "I", false)
  | 1 => ("NoiseShaper$Fold", "cells", "[I", true)
  | 2 => ("NoiseShaper$Fold", "at", "I", false)
  | _ => ("NoiseShaper$Fold", "isSecond", "Z", false)
def tyX3 : Nat → FieldType := fun k => match k with
  | 0 => .int
  | 1 => .array .int
  | 2 => .int
  | _ => .boolean
abbrev wsX30 : List Cond := u_ws RX3 TX3 4
theorem nmX3 : ∀ a, a < 4 → ∀ b, b < 4 → a ≠ b → (TX3 a).2.1 ≠ (TX3 b).2.1 := by decide +kernel
theorem tyX3_ok : ∀ k, k < 4 → parseFieldDescriptor (TX3 k).2.2.1 = some (tyX3 k) := by decide +kernel
abbrev cX3_init : ByteArray := prog_5_method_1_code
def yX3_init : MethodName := ⟨RX3, "<init>", "()V"⟩
abbrev cX3_begin : ByteArray := prog_5_method_2_code
def yX3_begin : MethodName := ⟨RX3, "begin", "()V"⟩
abbrev cX3_take : ByteArray := prog_5_method_3_code
def yX3_take : MethodName := ⟨RX3, "take", "(I)Z"⟩
abbrev cX3_number : ByteArray := prog_5_method_4_code
def yX3_number : MethodName := ⟨RX3, "number", "(LNoiseShaper$Taps;)I"⟩
def RX4 : String := "NoiseShaper$Latest"
def TX4 : u_T := fun k => match k with
  | 0 => ("NoiseShaper$Latest", "cells", "[I", true)
  | 1 => ("NoiseShaper$Latest", "at", "I", false)
  | 2 => ("NoiseShaper$Latest", "kept", "I", false)
  | _ => ("NoiseShaper$Latest", "count", "I", false)
def tyX4 : Nat → FieldType := fun k => match k with
  | 0 => .array .int
  | 1 => .int
  | 2 => .int
  | _ => .int
abbrev wsX40 : List Cond := u_ws RX4 TX4 4
theorem nmX4 : ∀ a, a < 4 → ∀ b, b < 4 → a ≠ b → (TX4 a).2.1 ≠ (TX4 b).2.1 := by decide +kernel
theorem tyX4_ok : ∀ k, k < 4 → parseFieldDescriptor (TX4 k).2.2.1 = some (tyX4 k) := by decide +kernel
abbrev cX4_init : ByteArray := prog_6_method_1_code
def yX4_init : MethodName := ⟨RX4, "<init>", "()V"⟩
abbrev cX4_clear : ByteArray := prog_6_method_2_code
def yX4_clear : MethodName := ⟨RX4, "clear", "()V"⟩
abbrev cX4_put : ByteArray := prog_6_method_3_code
def yX4_put : MethodName := ⟨RX4, "put", "(I)V"⟩
abbrev cX4_get : ByteArray := prog_6_method_4_code
def yX4_get : MethodName := ⟨RX4, "get", "(I)I"⟩
abbrev cX4_least : ByteArray := prog_6_method_5_code
def yX4_least : MethodName := ⟨RX4, "least", "()I"⟩
abbrev cX4_greatest : ByteArray := prog_6_method_6_code
def yX4_greatest : MethodName := ⟨RX4, "greatest", "()I"⟩
abbrev cX4_total : ByteArray := prog_6_method_7_code
def yX4_total : MethodName := ⟨RX4, "total", "()J"⟩
abbrev cX4_nearLatest : ByteArray := prog_6_method_8_code
def yX4_nearLatest : MethodName := ⟨RX4, "nearLatest", "(I)I"⟩
abbrev cX4_beatOf : ByteArray := prog_6_method_9_code
def yX4_beatOf : MethodName := ⟨RX4, "beatOf", "(I)J"⟩
abbrev cX4_greatestBeat : ByteArray := prog_6_method_10_code
def yX4_greatestBeat : MethodName := ⟨RX4, "greatestBeat", "(II)I"⟩
def RX5 : String := "NoiseShaper$Loop"
def TX5 : u_T := fun k => match k with
  | 0 => ("NoiseShaper$Loop", "plan", "LNoiseShaper$LoopPlan;", true)
  | 1 => ("NoiseShaper$Loop", "states", "[I", true)
  | 2 => ("NoiseShaper$Loop", "past", "[I", true)
  | 3 => ("NoiseShaper$Loop", "value", "I", false)
  | 4 => ("NoiseShaper$Loop", "x", "I", false)
  | 5 => ("NoiseShaper$Loop", "hits", "I", false)
  | 6 => ("NoiseShaper$Loop", "hitClocks", "I", false)
  | 7 => ("NoiseShaper$Loop", "hit", "Z", false)
  | 8 => ("NoiseShaper$Loop", "greatestHeld", "I", false)
  | 9 => ("NoiseShaper$Loop", "sourceSum", "J", false)
  | 10 => ("NoiseShaper$Loop", "valueSum", "J", false)
  | 11 => ("NoiseShaper$Loop", "outSum", "J", false)
  | 12 => ("NoiseShaper$Loop", "lost", "J", false)
  | _ => ("NoiseShaper$Loop", "greatestGap", "J", false)
def tyX5 : Nat → FieldType := fun k => match k with
  | 0 => .object "NoiseShaper$LoopPlan"
  | 1 => .array .int
  | 2 => .array .int
  | 3 => .int
  | 4 => .int
  | 5 => .int
  | 6 => .int
  | 7 => .boolean
  | 8 => .int
  | 9 => .long
  | 10 => .long
  | 11 => .long
  | 12 => .long
  | _ => .long
abbrev wsX50 : List Cond := u_ws RX5 TX5 14
theorem nmX5 : ∀ a, a < 14 → ∀ b, b < 14 → a ≠ b → (TX5 a).2.1 ≠ (TX5 b).2.1 := by decide +kernel
theorem tyX5_ok : ∀ k, k < 14 → parseFieldDescriptor (TX5 k).2.2.1 = some (tyX5 k) := by decide +kernel
abbrev cX5_init : ByteArray := prog_7_method_1_code
def yX5_init : MethodName := ⟨RX5, "<init>", "()V"⟩
abbrev cX5_begin : ByteArray := prog_7_method_2_code
def yX5_begin : MethodName := ⟨RX5, "begin", "()V"⟩
abbrev cX5_beginTone : ByteArray := prog_7_method_3_code
def yX5_beginTone : MethodName := ⟨RX5, "beginTone", "(LNoiseShaper$LoopPlan;)V"⟩
abbrev cX5_copyFrom : ByteArray := prog_7_method_4_code
def yX5_copyFrom : MethodName := ⟨RX5, "copyFrom", "(LNoiseShaper$Loop;)V"⟩
abbrev cX5_gapNow : ByteArray := prog_7_method_5_code
def yX5_gapNow : MethodName := ⟨RX5, "gapNow", "()J"⟩
abbrev cX5_advance : ByteArray := prog_7_method_6_code
def yX5_advance : MethodName := ⟨RX5, "advance", "(I)I"⟩
abbrev cX5_writeWords : ByteArray := prog_7_method_7_code
def yX5_writeWords : MethodName := ⟨RX5, "writeWords", "([II)V"⟩
abbrev cX5_outOf : ByteArray := prog_7_method_8_code
def yX5_outOf : MethodName := ⟨RX5, "outOf", "(I)I"⟩
abbrev cX5_outOfErrors : ByteArray := prog_7_method_9_code
def yX5_outOfErrors : MethodName := ⟨RX5, "outOfErrors", "(II)I"⟩
abbrev cX5_shapedErrors : ByteArray := prog_7_method_10_code
def yX5_shapedErrors : MethodName := ⟨RX5, "shapedErrors", "()I"⟩
abbrev cX5_outOfSums : ByteArray := prog_7_method_11_code
def yX5_outOfSums : MethodName := ⟨RX5, "outOfSums", "(II)I"⟩
abbrev cX5_outOfCascade : ByteArray := prog_7_method_12_code
def yX5_outOfCascade : MethodName := ⟨RX5, "outOfCascade", "(II)I"⟩
abbrev cX5_differenceOf : ByteArray := prog_7_method_13_code
def yX5_differenceOf : MethodName := ⟨RX5, "differenceOf", "(II)I"⟩
abbrev cX5_hold : ByteArray := prog_7_method_14_code
def yX5_hold : MethodName := ⟨RX5, "hold", "(I)I"⟩
abbrev cX5_drawDither : ByteArray := prog_7_method_15_code
def yX5_drawDither : MethodName := ⟨RX5, "drawDither", "()I"⟩
def RX6 : String := "NoiseShaper$LoopPlan"
def TX6 : u_T := fun k => match k with
  | 0 => ("NoiseShaper$LoopPlan", "kind", "I", false)
  | 1 => ("NoiseShaper$LoopPlan", "order", "I", false)
  | 2 => ("NoiseShaper$LoopPlan", "step", "I", false)
  | 3 => ("NoiseShaper$LoopPlan", "levels", "I", false)
  | 4 => ("NoiseShaper$LoopPlan", "limit", "I", false)
  | 5 => ("NoiseShaper$LoopPlan", "calm", "Z", false)
  | 6 => ("NoiseShaper$LoopPlan", "dither", "I", false)
  | _ => ("NoiseShaper$LoopPlan", "seed", "I", false)
def tyX6 : Nat → FieldType := fun k => match k with
  | 0 => .int
  | 1 => .int
  | 2 => .int
  | 3 => .int
  | 4 => .int
  | 5 => .boolean
  | 6 => .int
  | _ => .int
abbrev wsX60 : List Cond := u_ws RX6 TX6 8
theorem nmX6 : ∀ a, a < 8 → ∀ b, b < 8 → a ≠ b → (TX6 a).2.1 ≠ (TX6 b).2.1 := by decide +kernel
theorem tyX6_ok : ∀ k, k < 8 → parseFieldDescriptor (TX6 k).2.2.1 = some (tyX6 k) := by decide +kernel
abbrev cX6_init : ByteArray := prog_8_method_1_code
def yX6_init : MethodName := ⟨RX6, "<init>", "()V"⟩
abbrev cX6_copyFrom : ByteArray := prog_8_method_2_code
def yX6_copyFrom : MethodName := ⟨RX6, "copyFrom", "(LNoiseShaper$LoopPlan;)V"⟩
abbrev cX6_elementsOf : ByteArray := prog_8_method_3_code
def yX6_elementsOf : MethodName := ⟨RX6, "elementsOf", "(III)I"⟩
abbrev cX6_besides : ByteArray := prog_8_method_4_code
def yX6_besides : MethodName := ⟨RX6, "besides", "()I"⟩
abbrev cX6_valueOf : ByteArray := prog_8_method_5_code
def yX6_valueOf : MethodName := ⟨RX6, "valueOf", "(I)I"⟩
abbrev cX6_valueOfSmall : ByteArray := prog_8_method_6_code
def yX6_valueOfSmall : MethodName := ⟨RX6, "valueOfSmall", "(I)I"⟩
abbrev cX6_nearest : ByteArray := prog_8_method_7_code
def yX6_nearest : MethodName := ⟨RX6, "nearest", "(I)I"⟩
def RX7 : String := "NoiseShaper$Source"
def TX7 : u_T := fun k => match k with
  | 0 => ("NoiseShaper$Source", "kind", "I", false)
  | 1 => ("NoiseShaper$Source", "a", "I", false)
  | 2 => ("NoiseShaper$Source", "b", "I", false)
  | 3 => ("NoiseShaper$Source", "c", "I", false)
  | _ => ("NoiseShaper$Source", "samples", "[I", true)
def tyX7 : Nat → FieldType := fun k => match k with
  | 0 => .int
  | 1 => .int
  | 2 => .int
  | 3 => .int
  | _ => .array .int
abbrev wsX70 : List Cond := u_ws RX7 TX7 5
theorem nmX7 : ∀ a, a < 5 → ∀ b, b < 5 → a ≠ b → (TX7 a).2.1 ≠ (TX7 b).2.1 := by decide +kernel
theorem tyX7_ok : ∀ k, k < 5 → parseFieldDescriptor (TX7 k).2.2.1 = some (tyX7 k) := by decide +kernel
abbrev cX7_init : ByteArray := prog_9_method_1_code
def yX7_init : MethodName := ⟨RX7, "<init>", "()V"⟩
abbrev cX7_numberAt : ByteArray := prog_9_method_2_code
def yX7_numberAt : MethodName := ⟨RX7, "numberAt", "(I)I"⟩
abbrev cX7_numberUnbound : ByteArray := prog_9_method_3_code
def yX7_numberUnbound : MethodName := ⟨RX7, "numberUnbound", "(I)I"⟩
def RX8 : String := "NoiseShaper$Taps"
def TX8 : u_T := fun k => match k with
  | 0 => ("NoiseShaper$Taps", "toldTaps", "[I", true)
  | _ => ("NoiseShaper$Taps", "toldShift", "I", false)
def tyX8 : Nat → FieldType := fun k => match k with
  | 0 => .array .int
  | _ => .int
abbrev wsX80 : List Cond := u_ws RX8 TX8 2
theorem nmX8 : ∀ a, a < 2 → ∀ b, b < 2 → a ≠ b → (TX8 a).2.1 ≠ (TX8 b).2.1 := by decide +kernel
theorem tyX8_ok : ∀ k, k < 2 → parseFieldDescriptor (TX8 k).2.2.1 = some (tyX8 k) := by decide +kernel
abbrev cX8_init : ByteArray := prog_10_method_1_code
def yX8_init : MethodName := ⟨RX8, "<init>", "()V"⟩
abbrev cX8_isKind : ByteArray := prog_10_method_2_code
def yX8_isKind : MethodName := ⟨RX8, "isKind", "(I)Z"⟩
abbrev cX8_tell : ByteArray := prog_10_method_3_code
def yX8_tell : MethodName := ⟨RX8, "tell", "(IIIII)V"⟩
abbrev cX8_rowOf : ByteArray := prog_10_method_4_code
def yX8_rowOf : MethodName := ⟨RX8, "rowOf", "(I)[I"⟩
abbrev cX8_shiftOf : ByteArray := prog_10_method_5_code
def yX8_shiftOf : MethodName := ⟨RX8, "shiftOf", "(I)I"⟩
abbrev cX8_sumOf : ByteArray := prog_10_method_6_code
def yX8_sumOf : MethodName := ⟨RX8, "sumOf", "(I)I"⟩
abbrev cX8_isHalfBand : ByteArray := prog_10_method_7_code
def yX8_isHalfBand : MethodName := ⟨RX8, "isHalfBand", "(I)Z"⟩
abbrev cX8_plainOf : ByteArray := prog_10_method_8_code
def yX8_plainOf : MethodName := ⟨RX8, "plainOf", "(I)I"⟩
abbrev cX8_foldedOf : ByteArray := prog_10_method_9_code
def yX8_foldedOf : MethodName := ⟨RX8, "foldedOf", "(I)I"⟩
abbrev cX8_manyOf : ByteArray := prog_10_method_10_code
def yX8_manyOf : MethodName := ⟨RX8, "manyOf", "(II)I"⟩
def RX9 : String := "NoiseShaper$Tone"
def TX9 : u_T := fun k => match k with
  | 0 => ("NoiseShaper$Tone", "outs", "[I", true)
  | 1 => ("NoiseShaper$Tone", "states", "[I", true)
  | 2 => ("NoiseShaper$Tone", "cells", "[I", true)
  | 3 => ("NoiseShaper$Tone", "comesRound", "Z", false)
  | 4 => ("NoiseShaper$Tone", "lead", "I", false)
  | _ => ("NoiseShaper$Tone", "period", "I", false)
def tyX9 : Nat → FieldType := fun k => match k with
  | 0 => .array .int
  | 1 => .array .int
  | 2 => .array .int
  | 3 => .boolean
  | 4 => .int
  | _ => .int
abbrev wsX90 : List Cond := u_ws RX9 TX9 6
theorem nmX9 : ∀ a, a < 6 → ∀ b, b < 6 → a ≠ b → (TX9 a).2.1 ≠ (TX9 b).2.1 := by decide +kernel
theorem tyX9_ok : ∀ k, k < 6 → parseFieldDescriptor (TX9 k).2.2.1 = some (tyX9 k) := by decide +kernel
abbrev cX9_init : ByteArray := prog_11_method_1_code
def yX9_init : MethodName := ⟨RX9, "<init>", "()V"⟩
abbrev cX9_follow : ByteArray := prog_11_method_2_code
def yX9_follow : MethodName := ⟨RX9, "follow", "(LNoiseShaper$Loop;LNoiseShaper$LoopPlan;I)V"⟩
abbrev cX9_total : ByteArray := prog_11_method_3_code
def yX9_total : MethodName := ⟨RX9, "total", "()I"⟩
abbrev cX9_unlike : ByteArray := prog_11_method_4_code
def yX9_unlike : MethodName := ⟨RX9, "unlike", "()I"⟩
abbrev cX9_changes : ByteArray := prog_11_method_5_code
def yX9_changes : MethodName := ⟨RX9, "changes", "()I"⟩
abbrev cX9_longestRun : ByteArray := prog_11_method_6_code
def yX9_longestRun : MethodName := ⟨RX9, "longestRun", "()I"⟩
abbrev cX9_patternAt : ByteArray := prog_11_method_7_code
def yX9_patternAt : MethodName := ⟨RX9, "patternAt", "(I)I"⟩
abbrev cX9_findOrPut : ByteArray := prog_11_method_8_code
def yX9_findOrPut : MethodName := ⟨RX9, "findOrPut", "(I)I"⟩
abbrev cX9_cellOf : ByteArray := prog_11_method_9_code
def yX9_cellOf : MethodName := ⟨RX9, "cellOf", "(I)I"⟩
abbrev cX9_isSame : ByteArray := prog_11_method_10_code
def yX9_isSame : MethodName := ⟨RX9, "isSame", "(II)Z"⟩
def RX10 : String := "NoiseShaper"
def TX10 : u_T := fun k => match k with
  | 0 => ("NoiseShaper", "status", "I", false)
  | 1 => ("NoiseShaper", "clock", "I", false)
  | 2 => ("NoiseShaper", "manyFolds", "I", false)
  | 3 => ("NoiseShaper", "source", "LNoiseShaper$Source;", true)
  | 4 => ("NoiseShaper", "loop", "LNoiseShaper$Loop;", true)
  | 5 => ("NoiseShaper", "elements", "LNoiseShaper$Elements;", true)
  | 6 => ("NoiseShaper", "comb", "LNoiseShaper$Comb;", true)
  | 7 => ("NoiseShaper", "taps", "LNoiseShaper$Taps;", true)
  | 8 => ("NoiseShaper", "folds", "[LNoiseShaper$Fold;", true)
  | 9 => ("NoiseShaper", "latest", "[LNoiseShaper$Latest;", true)
  | 10 => ("NoiseShaper", "asked", "LNoiseShaper$Asked;", true)
  | 11 => ("NoiseShaper", "paperLoop", "LNoiseShaper$Loop;", true)
  | 12 => ("NoiseShaper", "paperElements", "LNoiseShaper$Elements;", true)
  | _ => ("NoiseShaper", "tone", "LNoiseShaper$Tone;", true)
def tyX10 : Nat → FieldType := fun k => match k with
  | 0 => .int
  | 1 => .int
  | 2 => .int
  | 3 => .object "NoiseShaper$Source"
  | 4 => .object "NoiseShaper$Loop"
  | 5 => .object "NoiseShaper$Elements"
  | 6 => .object "NoiseShaper$Comb"
  | 7 => .object "NoiseShaper$Taps"
  | 8 => .array (.object "NoiseShaper$Fold")
  | 9 => .array (.object "NoiseShaper$Latest")
  | 10 => .object "NoiseShaper$Asked"
  | 11 => .object "NoiseShaper$Loop"
  | 12 => .object "NoiseShaper$Elements"
  | _ => .object "NoiseShaper$Tone"
abbrev wsX100 : List Cond := u_ws RX10 TX10 14
theorem nmX10 : ∀ a, a < 14 → ∀ b, b < 14 → a ≠ b → (TX10 a).2.1 ≠ (TX10 b).2.1 := by decide +kernel
theorem tyX10_ok : ∀ k, k < 14 → parseFieldDescriptor (TX10 k).2.2.1 = some (tyX10 k) := by decide +kernel
abbrev cX10_init : ByteArray := prog_1_method_1_code
def yX10_init : MethodName := ⟨RX10, "<init>", "()V"⟩
abbrev cX10_status : ByteArray := prog_1_method_2_code
def yX10_status : MethodName := ⟨RX10, "status", "()I"⟩
abbrev cX10_source : ByteArray := prog_1_method_3_code
def yX10_source : MethodName := ⟨RX10, "source", "(IIII)I"⟩
abbrev cX10_sample : ByteArray := prog_1_method_4_code
def yX10_sample : MethodName := ⟨RX10, "sample", "(II)I"⟩
abbrev cX10_loop : ByteArray := prog_1_method_5_code
def yX10_loop : MethodName := ⟨RX10, "loop", "(IIIIIZ)I"⟩
abbrev cX10_dither : ByteArray := prog_1_method_6_code
def yX10_dither : MethodName := ⟨RX10, "dither", "(II)I"⟩
abbrev cX10_way : ByteArray := prog_1_method_7_code
def yX10_way : MethodName := ⟨RX10, "way", "(I)I"⟩
abbrev cX10_deviation : ByteArray := prog_1_method_8_code
def yX10_deviation : MethodName := ⟨RX10, "deviation", "(II)I"⟩
abbrev cX10_comb : ByteArray := prog_1_method_9_code
def yX10_comb : MethodName := ⟨RX10, "comb", "(IIII)I"⟩
abbrev cX10_taps : ByteArray := prog_1_method_10_code
def yX10_taps : MethodName := ⟨RX10, "taps", "(IIIII)I"⟩
abbrev cX10_folds : ByteArray := prog_1_method_11_code
def yX10_folds : MethodName := ⟨RX10, "folds", "(IIII)I"⟩
abbrev cX10_anew : ByteArray := prog_1_method_12_code
def yX10_anew : MethodName := ⟨RX10, "anew", "(I)I"⟩
abbrev cX10_clocks : ByteArray := prog_1_method_13_code
def yX10_clocks : MethodName := ⟨RX10, "clocks", "(I)I"⟩
abbrev cX10_told : ByteArray := prog_1_method_14_code
def yX10_told : MethodName := ⟨RX10, "told", "(I)I"⟩
abbrev cX10_latest : ByteArray := prog_1_method_15_code
def yX10_latest : MethodName := ⟨RX10, "latest", "(II)I"⟩
abbrev cX10_state : ByteArray := prog_1_method_16_code
def yX10_state : MethodName := ⟨RX10, "state", "(I)I"⟩
abbrev cX10_sum : ByteArray := prog_1_method_17_code
def yX10_sum : MethodName := ⟨RX10, "sum", "(I)J"⟩
abbrev cX10_gap : ByteArray := prog_1_method_18_code
def yX10_gap : MethodName := ⟨RX10, "gap", "(II)J"⟩
abbrev cX10_range : ByteArray := prog_1_method_19_code
def yX10_range : MethodName := ⟨RX10, "range", "(II)J"⟩
abbrev cX10_steady : ByteArray := prog_1_method_20_code
def yX10_steady : MethodName := ⟨RX10, "steady", "(II)I"⟩
abbrev cX10_element : ByteArray := prog_1_method_21_code
def yX10_element : MethodName := ⟨RX10, "element", "(II)I"⟩
abbrev cX10_spread : ByteArray := prog_1_method_22_code
def yX10_spread : MethodName := ⟨RX10, "spread", "()I"⟩
abbrev cX10_combed : ByteArray := prog_1_method_23_code
def yX10_combed : MethodName := ⟨RX10, "combed", "(I)I"⟩
abbrev cX10_wrong : ByteArray := prog_1_method_24_code
def yX10_wrong : MethodName := ⟨RX10, "wrong", "(I)J"⟩
abbrev cX10_work : ByteArray := prog_1_method_25_code
def yX10_work : MethodName := ⟨RX10, "work", "(II)I"⟩
abbrev cX10_need : ByteArray := prog_1_method_26_code
def yX10_need : MethodName := ⟨RX10, "need", "(I)I"⟩
abbrev cX10_response : ByteArray := prog_1_method_27_code
def yX10_response : MethodName := ⟨RX10, "response", "(I)I"⟩
abbrev cX10_half : ByteArray := prog_1_method_28_code
def yX10_half : MethodName := ⟨RX10, "half", "(II)I"⟩
abbrev cX10_beat : ByteArray := prog_1_method_29_code
def yX10_beat : MethodName := ⟨RX10, "beat", "(II)J"⟩
abbrev cX10_tonal : ByteArray := prog_1_method_30_code
def yX10_tonal : MethodName := ⟨RX10, "tonal", "(I)I"⟩
abbrev cX10_tone : ByteArray := prog_1_method_31_code
def yX10_tone : MethodName := ⟨RX10, "tone", "(II)I"⟩
abbrev cX10_out : ByteArray := prog_1_method_32_code
def yX10_out : MethodName := ⟨RX10, "out", "(II)I"⟩
abbrev cX10_asked : ByteArray := prog_1_method_33_code
def yX10_asked : MethodName := ⟨RX10, "asked", "(I)I"⟩
abbrev cX10_idle : ByteArray := prog_1_method_34_code
def yX10_idle : MethodName := ⟨RX10, "idle", "(IIII)I"⟩
abbrev cX10_next : ByteArray := prog_1_method_35_code
def yX10_next : MethodName := ⟨RX10, "next", "(I)I"⟩
abbrev cX10_ahead : ByteArray := prog_1_method_36_code
def yX10_ahead : MethodName := ⟨RX10, "ahead", "(III)J"⟩
abbrev cX10_strain : ByteArray := prog_1_method_37_code
def yX10_strain : MethodName := ⟨RX10, "strain", "(II)I"⟩
abbrev cX10_calmed : ByteArray := prog_1_method_38_code
def yX10_calmed : MethodName := ⟨RX10, "calmed", "(II)I"⟩
abbrev cX10_refuse : ByteArray := prog_1_method_39_code
def yX10_refuse : MethodName := ⟨RX10, "refuse", "(I)I"⟩
abbrev cX10_answer : ByteArray := prog_1_method_40_code
def yX10_answer : MethodName := ⟨RX10, "answer", "(I)I"⟩
abbrev cX10_answerLong : ByteArray := prog_1_method_41_code
def yX10_answerLong : MethodName := ⟨RX10, "answerLong", "(J)J"⟩
abbrev cX10_within : ByteArray := prog_1_method_42_code
def yX10_within : MethodName := ⟨RX10, "within", "(III)Z"⟩
abbrev cX10_isNumber : ByteArray := prog_1_method_43_code
def yX10_isNumber : MethodName := ⟨RX10, "isNumber", "(I)Z"⟩
abbrev cX10_isTap : ByteArray := prog_1_method_44_code
def yX10_isTap : MethodName := ⟨RX10, "isTap", "(I)Z"⟩
abbrev cX10_isStage : ByteArray := prog_1_method_45_code
def yX10_isStage : MethodName := ⟨RX10, "isStage", "(I)Z"⟩
abbrev cX10_putTo : ByteArray := prog_1_method_46_code
def yX10_putTo : MethodName := ⟨RX10, "putTo", "(II)I"⟩
abbrev cX10_beginAnewFrom : ByteArray := prog_1_method_47_code
def yX10_beginAnewFrom : MethodName := ⟨RX10, "beginAnewFrom", "(I)V"⟩
abbrev cX10_oneClock : ByteArray := prog_1_method_48_code
def yX10_oneClock : MethodName := ⟨RX10, "oneClock", "()V"⟩
abbrev cX10_handToFolds : ByteArray := prog_1_method_49_code
def yX10_handToFolds : MethodName := ⟨RX10, "handToFolds", "(I)V"⟩
abbrev cX10_keptByLoop : ByteArray := prog_1_method_50_code
def yX10_keptByLoop : MethodName := ⟨RX10, "keptByLoop", "()I"⟩
abbrev cX10_greatestGapOf : ByteArray := prog_1_method_51_code
def yX10_greatestGapOf : MethodName := ⟨RX10, "greatestGapOf", "(I)J"⟩
abbrev cX10_hitClocksAhead : ByteArray := prog_1_method_52_code
def yX10_hitClocksAhead : MethodName := ⟨RX10, "hitClocksAhead", "(II)I"⟩
def RX11 : String := "NoiseShaperModel"
def TX11 : u_T := fun k => match k with
  | 0 => ("NoiseShaperModel", "run", "[J", true)
  | 1 => ("NoiseShaperModel", "aside", "[J", true)
  | 2 => ("NoiseShaperModel", "status", "I", false)
  | 3 => ("NoiseShaperModel", "kind", "I", false)
  | 4 => ("NoiseShaperModel", "a", "I", false)
  | 5 => ("NoiseShaperModel", "b", "I", false)
  | 6 => ("NoiseShaperModel", "c", "I", false)
  | 7 => ("NoiseShaperModel", "loop", "I", false)
  | 8 => ("NoiseShaperModel", "order", "I", false)
  | 9 => ("NoiseShaperModel", "step", "I", false)
  | 10 => ("NoiseShaperModel", "levels", "I", false)
  | 11 => ("NoiseShaperModel", "limit", "I", false)
  | 12 => ("NoiseShaperModel", "dither", "I", false)
  | 13 => ("NoiseShaperModel", "seed", "I", false)
  | 14 => ("NoiseShaperModel", "isCalm", "Z", false)
  | 15 => ("NoiseShaperModel", "way", "I", false)
  | 16 => ("NoiseShaperModel", "combOrder", "I", false)
  | 17 => ("NoiseShaperModel", "ratio", "I", false)
  | 18 => ("NoiseShaperModel", "width", "I", false)
  | 19 => ("NoiseShaperModel", "in", "I", false)
  | 20 => ("NoiseShaperModel", "folds", "I", false)
  | 21 => ("NoiseShaperModel", "tapShift", "I", false)
  | 22 => ("NoiseShaperModel", "samples", "[I", true)
  | 23 => ("NoiseShaperModel", "deviations", "[I", true)
  | 24 => ("NoiseShaperModel", "foldTaps", "[I", true)
  | 25 => ("NoiseShaperModel", "ownTaps", "[I", true)
  | 26 => ("NoiseShaperModel", "ones", "[I", true)
  | 27 => ("NoiseShaperModel", "folded", "[I", true)
  | 28 => ("NoiseShaperModel", "states", "[J", true)
  | 29 => ("NoiseShaperModel", "outs", "[I", true)
  | 30 => ("NoiseShaperModel", "lead", "I", false)
  | 31 => ("NoiseShaperModel", "period", "I", false)
  | 32 => ("NoiseShaperModel", "asked", "[I", true)
  | 33 => ("NoiseShaperModel", "askedMany", "I", false)
  | _ => ("NoiseShaperModel", "trial", "[J", true)
def tyX11 : Nat → FieldType := fun k => match k with
  | 0 => .array .long
  | 1 => .array .long
  | 2 => .int
  | 3 => .int
  | 4 => .int
  | 5 => .int
  | 6 => .int
  | 7 => .int
  | 8 => .int
  | 9 => .int
  | 10 => .int
  | 11 => .int
  | 12 => .int
  | 13 => .int
  | 14 => .boolean
  | 15 => .int
  | 16 => .int
  | 17 => .int
  | 18 => .int
  | 19 => .int
  | 20 => .int
  | 21 => .int
  | 22 => .array .int
  | 23 => .array .int
  | 24 => .array .int
  | 25 => .array .int
  | 26 => .array .int
  | 27 => .array .int
  | 28 => .array .long
  | 29 => .array .int
  | 30 => .int
  | 31 => .int
  | 32 => .array .int
  | 33 => .int
  | _ => .array .long
abbrev wsX110 : List Cond := u_ws RX11 TX11 35
theorem nmX11 : ∀ a, a < 35 → ∀ b, b < 35 → a ≠ b → (TX11 a).2.1 ≠ (TX11 b).2.1 := by decide +kernel
theorem tyX11_ok : ∀ k, k < 35 → parseFieldDescriptor (TX11 k).2.2.1 = some (tyX11 k) := by decide +kernel
abbrev cX11_init : ByteArray := prog_13_method_1_code
def yX11_init : MethodName := ⟨RX11, "<init>", "()V"⟩
abbrev cX11_status : ByteArray := prog_13_method_2_code
def yX11_status : MethodName := ⟨RX11, "status", "()I"⟩
abbrev cX11_refuse : ByteArray := prog_13_method_3_code
def yX11_refuse : MethodName := ⟨RX11, "refuse", "(I)I"⟩
abbrev cX11_gives : ByteArray := prog_13_method_4_code
def yX11_gives : MethodName := ⟨RX11, "gives", "(I)I"⟩
abbrev cX11_givesLong : ByteArray := prog_13_method_5_code
def yX11_givesLong : MethodName := ⟨RX11, "givesLong", "(J)J"⟩
abbrev cX11_isFrom : ByteArray := prog_13_method_6_code
def yX11_isFrom : MethodName := ⟨RX11, "isFrom", "(III)Z"⟩
abbrev cX11_isFar : ByteArray := prog_13_method_7_code
def yX11_isFar : MethodName := ⟨RX11, "isFar", "(I)Z"⟩
abbrev cX11_get : ByteArray := prog_13_method_8_code
def yX11_get : MethodName := ⟨RX11, "get", "(I)I"⟩
abbrev cX11_copies : ByteArray := prog_13_method_9_code
def yX11_copies : MethodName := ⟨RX11, "copies", "([J[J)V"⟩
abbrev cX11_wipes : ByteArray := prog_13_method_10_code
def yX11_wipes : MethodName := ⟨RX11, "wipes", "(II)V"⟩
abbrev cX11_begins : ByteArray := prog_13_method_11_code
def yX11_begins : MethodName := ⟨RX11, "begins", "(I)V"⟩
abbrev cX11_beginsLoop : ByteArray := prog_13_method_12_code
def yX11_beginsLoop : MethodName := ⟨RX11, "beginsLoop", "()V"⟩
abbrev cX11_beginsElements : ByteArray := prog_13_method_13_code
def yX11_beginsElements : MethodName := ⟨RX11, "beginsElements", "()V"⟩
abbrev cX11_elements : ByteArray := prog_13_method_14_code
def yX11_elements : MethodName := ⟨RX11, "elements", "()I"⟩
abbrev cX11_besides : ByteArray := prog_13_method_15_code
def yX11_besides : MethodName := ⟨RX11, "besides", "()I"⟩
abbrev cX11_weight : ByteArray := prog_13_method_16_code
def yX11_weight : MethodName := ⟨RX11, "weight", "(I)I"⟩
abbrev cX11_weights : ByteArray := prog_13_method_17_code
def yX11_weights : MethodName := ⟨RX11, "weights", "()I"⟩
abbrev cX11_tells : ByteArray := prog_13_method_18_code
def yX11_tells : MethodName := ⟨RX11, "tells", "(IJ)V"⟩
abbrev cX11_many : ByteArray := prog_13_method_19_code
def yX11_many : MethodName := ⟨RX11, "many", "(I)I"⟩
abbrev cX11_latestOf : ByteArray := prog_13_method_20_code
def yX11_latestOf : MethodName := ⟨RX11, "latestOf", "(II)J"⟩
abbrev cX11_sourceAt : ByteArray := prog_13_method_21_code
def yX11_sourceAt : MethodName := ⟨RX11, "sourceAt", "(I)I"⟩
abbrev cX11_valueOf : ByteArray := prog_13_method_22_code
def yX11_valueOf : MethodName := ⟨RX11, "valueOf", "(I)I"⟩
abbrev cX11_nearest : ByteArray := prog_13_method_23_code
def yX11_nearest : MethodName := ⟨RX11, "nearest", "(I)I"⟩
abbrev cX11_held : ByteArray := prog_13_method_24_code
def yX11_held : MethodName := ⟨RX11, "held", "(I)I"⟩
abbrev cX11_drawn : ByteArray := prog_13_method_25_code
def yX11_drawn : MethodName := ⟨RX11, "drawn", "()I"⟩
abbrev cX11_loops : ByteArray := prog_13_method_26_code
def yX11_loops : MethodName := ⟨RX11, "loops", "(II)I"⟩
abbrev cX11_byErrors : ByteArray := prog_13_method_27_code
def yX11_byErrors : MethodName := ⟨RX11, "byErrors", "(II)I"⟩
abbrev cX11_bySums : ByteArray := prog_13_method_28_code
def yX11_bySums : MethodName := ⟨RX11, "bySums", "(II)I"⟩
abbrev cX11_byCascade : ByteArray := prog_13_method_29_code
def yX11_byCascade : MethodName := ⟨RX11, "byCascade", "(II)I"⟩
abbrev cX11_wouldBeOn : ByteArray := prog_13_method_30_code
def yX11_wouldBeOn : MethodName := ⟨RX11, "wouldBeOn", "(I)I"⟩
abbrev cX11_bounded : ByteArray := prog_13_method_31_code
def yX11_bounded : MethodName := ⟨RX11, "bounded", "(J)J"⟩
abbrev cX11_goesElements : ByteArray := prog_13_method_32_code
def yX11_goesElements : MethodName := ⟨RX11, "goesElements", "(I)I"⟩
abbrev cX11_worded : ByteArray := prog_13_method_33_code
def yX11_worded : MethodName := ⟨RX11, "worded", "(J)J"⟩
abbrev cX11_combs : ByteArray := prog_13_method_34_code
def yX11_combs : MethodName := ⟨RX11, "combs", "(J)Z"⟩
abbrev cX11_tapMany : ByteArray := prog_13_method_35_code
def yX11_tapMany : MethodName := ⟨RX11, "tapMany", "(I)I"⟩
abbrev cX11_tapOf : ByteArray := prog_13_method_36_code
def yX11_tapOf : MethodName := ⟨RX11, "tapOf", "(II)I"⟩
abbrev cX11_shiftOf : ByteArray := prog_13_method_37_code
def yX11_shiftOf : MethodName := ⟨RX11, "shiftOf", "(I)I"⟩
abbrev cX11_folds : ByteArray := prog_13_method_38_code
def yX11_folds : MethodName := ⟨RX11, "folds", "(IJ)Z"⟩
abbrev cX11_goes : ByteArray := prog_13_method_39_code
def yX11_goes : MethodName := ⟨RX11, "goes", "()V"⟩
abbrev cX11_source : ByteArray := prog_13_method_40_code
def yX11_source : MethodName := ⟨RX11, "source", "(IIII)I"⟩
abbrev cX11_sample : ByteArray := prog_13_method_41_code
def yX11_sample : MethodName := ⟨RX11, "sample", "(II)I"⟩
abbrev cX11_loop : ByteArray := prog_13_method_42_code
def yX11_loop : MethodName := ⟨RX11, "loop", "(IIIIIZ)I"⟩
abbrev cX11_dither : ByteArray := prog_13_method_43_code
def yX11_dither : MethodName := ⟨RX11, "dither", "(II)I"⟩
abbrev cX11_way : ByteArray := prog_13_method_44_code
def yX11_way : MethodName := ⟨RX11, "way", "(I)I"⟩
abbrev cX11_deviation : ByteArray := prog_13_method_45_code
def yX11_deviation : MethodName := ⟨RX11, "deviation", "(II)I"⟩
abbrev cX11_comb : ByteArray := prog_13_method_46_code
def yX11_comb : MethodName := ⟨RX11, "comb", "(IIII)I"⟩
abbrev cX11_taps : ByteArray := prog_13_method_47_code
def yX11_taps : MethodName := ⟨RX11, "taps", "(IIIII)I"⟩
abbrev cX11_isTap : ByteArray := prog_13_method_48_code
def yX11_isTap : MethodName := ⟨RX11, "isTap", "(I)Z"⟩
abbrev cX11_folds_ : ByteArray := prog_13_method_49_code
def yX11_folds_ : MethodName := ⟨RX11, "folds", "(IIII)I"⟩
abbrev cX11_isStage : ByteArray := prog_13_method_50_code
def yX11_isStage : MethodName := ⟨RX11, "isStage", "(I)Z"⟩
abbrev cX11_anew : ByteArray := prog_13_method_51_code
def yX11_anew : MethodName := ⟨RX11, "anew", "(I)I"⟩
abbrev cX11_clocks : ByteArray := prog_13_method_52_code
def yX11_clocks : MethodName := ⟨RX11, "clocks", "(I)I"⟩
abbrev cX11_told : ByteArray := prog_13_method_53_code
def yX11_told : MethodName := ⟨RX11, "told", "(I)I"⟩
abbrev cX11_latest : ByteArray := prog_13_method_54_code
def yX11_latest : MethodName := ⟨RX11, "latest", "(II)I"⟩
abbrev cX11_state : ByteArray := prog_13_method_55_code
def yX11_state : MethodName := ⟨RX11, "state", "(I)I"⟩
abbrev cX11_sum : ByteArray := prog_13_method_56_code
def yX11_sum : MethodName := ⟨RX11, "sum", "(I)J"⟩
abbrev cX11_gap : ByteArray := prog_13_method_57_code
def yX11_gap : MethodName := ⟨RX11, "gap", "(II)J"⟩
abbrev cX11_range : ByteArray := prog_13_method_58_code
def yX11_range : MethodName := ⟨RX11, "range", "(II)J"⟩
abbrev cX11_steady : ByteArray := prog_13_method_59_code
def yX11_steady : MethodName := ⟨RX11, "steady", "(II)I"⟩
abbrev cX11_element : ByteArray := prog_13_method_60_code
def yX11_element : MethodName := ⟨RX11, "element", "(II)I"⟩
abbrev cX11_spreadNow : ByteArray := prog_13_method_61_code
def yX11_spreadNow : MethodName := ⟨RX11, "spreadNow", "()I"⟩
abbrev cX11_spread : ByteArray := prog_13_method_62_code
def yX11_spread : MethodName := ⟨RX11, "spread", "()I"⟩
abbrev cX11_combed : ByteArray := prog_13_method_63_code
def yX11_combed : MethodName := ⟨RX11, "combed", "(I)I"⟩
abbrev cX11_wrong : ByteArray := prog_13_method_64_code
def yX11_wrong : MethodName := ⟨RX11, "wrong", "(I)J"⟩
abbrev cX11_unlikeNone : ByteArray := prog_13_method_65_code
def yX11_unlikeNone : MethodName := ⟨RX11, "unlikeNone", "(I)I"⟩
abbrev cX11_work : ByteArray := prog_13_method_66_code
def yX11_work : MethodName := ⟨RX11, "work", "(II)I"⟩
abbrev cX11_needFor : ByteArray := prog_13_method_67_code
def yX11_needFor : MethodName := ⟨RX11, "needFor", "(I)I"⟩
abbrev cX11_need : ByteArray := prog_13_method_68_code
def yX11_need : MethodName := ⟨RX11, "need", "(I)I"⟩
abbrev cX11_response : ByteArray := prog_13_method_69_code
def yX11_response : MethodName := ⟨RX11, "response", "(I)I"⟩
abbrev cX11_half : ByteArray := prog_13_method_70_code
def yX11_half : MethodName := ⟨RX11, "half", "(II)I"⟩
abbrev cX11_beatOf : ByteArray := prog_13_method_71_code
def yX11_beatOf : MethodName := ⟨RX11, "beatOf", "(II)J"⟩
abbrev cX11_beat : ByteArray := prog_13_method_72_code
def yX11_beat : MethodName := ⟨RX11, "beat", "(II)J"⟩
abbrev cX11_tonal : ByteArray := prog_13_method_73_code
def yX11_tonal : MethodName := ⟨RX11, "tonal", "(I)I"⟩
abbrev cX11_lays : ByteArray := prog_13_method_74_code
def yX11_lays : MethodName := ⟨RX11, "lays", "(I)V"⟩
abbrev cX11_isLike : ByteArray := prog_13_method_75_code
def yX11_isLike : MethodName := ⟨RX11, "isLike", "(II)Z"⟩
abbrev cX11_tones : ByteArray := prog_13_method_76_code
def yX11_tones : MethodName := ⟨RX11, "tones", "(IZ)V"⟩
abbrev cX11_asks : ByteArray := prog_13_method_77_code
def yX11_asks : MethodName := ⟨RX11, "asks", "(I)V"⟩
abbrev cX11_inPattern : ByteArray := prog_13_method_78_code
def yX11_inPattern : MethodName := ⟨RX11, "inPattern", "(I)I"⟩
abbrev cX11_ofPattern : ByteArray := prog_13_method_79_code
def yX11_ofPattern : MethodName := ⟨RX11, "ofPattern", "(I)I"⟩
abbrev cX11_tone : ByteArray := prog_13_method_80_code
def yX11_tone : MethodName := ⟨RX11, "tone", "(II)I"⟩
abbrev cX11_out : ByteArray := prog_13_method_81_code
def yX11_out : MethodName := ⟨RX11, "out", "(II)I"⟩
abbrev cX11_asked : ByteArray := prog_13_method_82_code
def yX11_asked : MethodName := ⟨RX11, "asked", "(I)I"⟩
abbrev cX11_idle : ByteArray := prog_13_method_83_code
def yX11_idle : MethodName := ⟨RX11, "idle", "(IIII)I"⟩
abbrev cX11_next : ByteArray := prog_13_method_84_code
def yX11_next : MethodName := ⟨RX11, "next", "(I)I"⟩
abbrev cX11_ahead : ByteArray := prog_13_method_85_code
def yX11_ahead : MethodName := ⟨RX11, "ahead", "(III)J"⟩
abbrev cX11_strained : ByteArray := prog_13_method_86_code
def yX11_strained : MethodName := ⟨RX11, "strained", "(II)I"⟩
abbrev cX11_strain : ByteArray := prog_13_method_87_code
def yX11_strain : MethodName := ⟨RX11, "strain", "(II)I"⟩
abbrev cX11_calmed : ByteArray := prog_13_method_88_code
def yX11_calmed : MethodName := ⟨RX11, "calmed", "(II)I"⟩
def RJ6 : String := "java/lang/Integer"
def TJ6 : u_T := fun k => match k with
  | _ => ("", "", "", false)
def tyJ6 : Nat → FieldType := fun k => match k with
  | _ => .int
abbrev wsJ60 : List Cond := u_ws RJ6 TJ6 0
theorem nmJ6 : ∀ a, a < 0 → ∀ b, b < 0 → a ≠ b → (TJ6 a).2.1 ≠ (TJ6 b).2.1 := by decide +kernel
theorem tyJ6_ok : ∀ k, k < 0 → parseFieldDescriptor (TJ6 k).2.2.1 = some (tyJ6 k) := by decide +kernel
abbrev cJ6_bitCount_0f7a4 : ByteArray := prog_14_method_49_code
def yJ6_bitCount_0f7a4 : MethodName := ⟨RJ6, "bitCount", "(I)I"⟩
def RJ9 : String := "java/lang/Math"
def TJ9 : u_T := fun k => match k with
  | _ => ("", "", "", false)
def tyJ9 : Nat → FieldType := fun k => match k with
  | _ => .int
abbrev wsJ90 : List Cond := u_ws RJ9 TJ9 0
theorem nmJ9 : ∀ a, a < 0 → ∀ b, b < 0 → a ≠ b → (TJ9 a).2.1 ≠ (TJ9 b).2.1 := by decide +kernel
theorem tyJ9_ok : ∀ k, k < 0 → parseFieldDescriptor (TJ9 k).2.2.1 = some (tyJ9 k) := by decide +kernel
abbrev cJ9_floorDiv_7cf53 : ByteArray := prog_15_method_47_code
def yJ9_floorDiv_7cf53 : MethodName := ⟨RJ9, "floorDiv", "(II)I"⟩
abbrev cJ9_floorMod_7cf53 : ByteArray := prog_15_method_50_code
def yJ9_floorMod_7cf53 : MethodName := ⟨RJ9, "floorMod", "(II)I"⟩
abbrev cJ9_abs_0f7a4 : ByteArray := prog_15_method_59_code
def yJ9_abs_0f7a4 : MethodName := ⟨RJ9, "abs", "(I)I"⟩
abbrev cJ9_abs_067f4 : ByteArray := prog_15_method_61_code
def yJ9_abs_067f4 : MethodName := ⟨RJ9, "abs", "(J)J"⟩
abbrev cJ9_max_7cf53 : ByteArray := prog_15_method_65_code
def yJ9_max_7cf53 : MethodName := ⟨RJ9, "max", "(II)I"⟩
abbrev cJ9_max_f86c9 : ByteArray := prog_15_method_66_code
def yJ9_max_f86c9 : MethodName := ⟨RJ9, "max", "(JJ)J"⟩
abbrev cJ9_min_7cf53 : ByteArray := prog_15_method_69_code
def yJ9_min_7cf53 : MethodName := ⟨RJ9, "min", "(II)I"⟩
abbrev cJ9_min_f86c9 : ByteArray := prog_15_method_70_code
def yJ9_min_f86c9 : MethodName := ⟨RJ9, "min", "(JJ)J"⟩
def RJ10 : String := "java/lang/System"
def TJ10 : u_T := fun k => match k with
  | _ => ("", "", "", false)
def tyJ10 : Nat → FieldType := fun k => match k with
  | _ => .int
abbrev wsJ100 : List Cond := u_ws RJ10 TJ10 0
theorem nmJ10 : ∀ a, a < 0 → ∀ b, b < 0 → a ≠ b → (TJ10 a).2.1 ≠ (TJ10 b).2.1 := by decide +kernel
theorem tyJ10_ok : ∀ k, k < 0 → parseFieldDescriptor (TJ10 k).2.2.1 = some (tyJ10 k) := by decide +kernel
def RJ7 : String := "java/util/Arrays"
def TJ7 : u_T := fun k => match k with
  | _ => ("", "", "", false)
def tyJ7 : Nat → FieldType := fun k => match k with
  | _ => .int
abbrev wsJ70 : List Cond := u_ws RJ7 TJ7 0
theorem nmJ7 : ∀ a, a < 0 → ∀ b, b < 0 → a ≠ b → (TJ7 a).2.1 ≠ (TJ7 b).2.1 := by decide +kernel
theorem tyJ7_ok : ∀ k, k < 0 → parseFieldDescriptor (TJ7 k).2.2.1 = some (tyJ7 k) := by decide +kernel
abbrev cJ7_fill_d0a16 : ByteArray := prog_17_method_101_code
def yJ7_fill_d0a16 : MethodName := ⟨RJ7, "fill", "([JJ)V"⟩
abbrev cJ7_fill_53178 : ByteArray := prog_17_method_103_code
def yJ7_fill_53178 : MethodName := ⟨RJ7, "fill", "([II)V"⟩
def RL : String := "NoiseShaperLaw"
abbrev cL_law : ByteArray := code
def yL_law : MethodName := ⟨RL, "law", "([I)Z"⟩
abbrev vwCl : List vw_C := [(RX0, TX0, 2), (RX1, TX1, 10), (RX2, TX2, 11), (RX3, TX3, 4), (RX4, TX4, 4), (RX5, TX5, 14), (RX6, TX6, 8), (RX7, TX7, 5), (RX8, TX8, 2), (RX9, TX9, 6), (RX10, TX10, 14), (RX11, TX11, 35)]
theorem inX0 : ∀ w ∈ wsX00, w ∈ lw_tbl := by decide +kernel
theorem inX1 : ∀ w ∈ wsX10, w ∈ lw_tbl := by decide +kernel
theorem inX2 : ∀ w ∈ wsX20, w ∈ lw_tbl := by decide +kernel
theorem inX3 : ∀ w ∈ wsX30, w ∈ lw_tbl := by decide +kernel
theorem inX4 : ∀ w ∈ wsX40, w ∈ lw_tbl := by decide +kernel
theorem inX5 : ∀ w ∈ wsX50, w ∈ lw_tbl := by decide +kernel
theorem inX6 : ∀ w ∈ wsX60, w ∈ lw_tbl := by decide +kernel
theorem inX7 : ∀ w ∈ wsX70, w ∈ lw_tbl := by decide +kernel
theorem inX8 : ∀ w ∈ wsX80, w ∈ lw_tbl := by decide +kernel
theorem inX9 : ∀ w ∈ wsX90, w ∈ lw_tbl := by decide +kernel
theorem inX10 : ∀ w ∈ wsX100, w ∈ lw_tbl := by decide +kernel
theorem inX11 : ∀ w ∈ wsX110, w ∈ lw_tbl := by decide +kernel
end
section
/-! THE WALKER (my own): a weakest precondition over javac's instructions, for methods that make no cell. The cells have fixed places; a store gives what ints and longs they hold. -/
/-- what the cells hold: ints and longs, by place and number -/
abbrev vg_S : Type := (Nat → Nat → Int32) × (Nat → Nat → Int64)
/-- a cell's shape: an array (0 ints, 1 longs, from 2 on references; its length; the places it holds), or an object (its class, its fields: 0 int, 1 long, n + 2 the place n) -/
abbrev vg_C : Type := (Nat × Nat × List Nat) ⊕ (Nat × List Nat)
/-- the locals -/
abbrev vg_L : Type := List (Option Value)
/-- an instruction: pc, the instruction, its length, and four numbers that say what it links -/
abbrev vg_I : Type := Nat × Instr × Nat × Nat × Nat × Nat × Int
/-- a method: name, code, locals, answer's type, frames, words, kind of answer (0 none, 1 int, 2 long, 3 a place), places that it may answer, whether it is static; what it asks; what it gives -/
abbrev vg_R : Type := (MethodName × ByteArray × Nat × Option FieldType × Nat × Nat × Nat × List Nat × Bool) × (List Value → vg_S → Prop) × (List Value → vg_S → Option Value → vg_S → Prop)
def vg_nth {α : Type} : List α → Nat → Option α
  | [], _ => none
  | x :: _, 0 => some x
  | _ :: r, i + 1 => vg_nth r i
theorem vg_nth_eq {α : Type} : ∀ (l : List α) (i : Nat), vg_nth l i = l[i]?
  | [], i => by simp [vg_nth]
  | x :: r, 0 => by simp [vg_nth]
  | x :: r, i + 1 => by simp [vg_nth, vg_nth_eq r i]
def vg_w1 (σ : vg_S) (k : Nat) (f : Nat → Int32) : vg_S := (fun a => if a = k then f else σ.1 a, σ.2)
def vg_w2 (σ : vg_S) (k : Nat) (f : Nat → Int64) : vg_S := (σ.1, fun a => if a = k then f else σ.2 a)
def vg_u1 (σ : vg_S) (k i : Nat) (x : Int32) : vg_S := vg_w1 σ k (upd (σ.1 k) i x)
def vg_u2 (σ : vg_S) (k i : Nat) (x : Int64) : vg_S := vg_w2 σ k (vp_updL (σ.2 k) i x)
/-! locals -/
def vg_k : Option Value → Option Value
  | some (.long _) => none
  | some (.double _) => none
  | x => x
def vg_s1 : vg_L → Nat → Value → vg_L
  | [], _, _ => []
  | _ :: r, 0, v => some v :: r
  | x :: r, 1, v => vg_k x :: vg_s1 r 0 v
  | x :: r, i + 2, v => x :: vg_s1 r (i + 1) v
def vg_n0 : vg_L → vg_L
  | [] => []
  | _ :: r => none :: r
def vg_s2 : vg_L → Nat → Value → vg_L
  | [], _, _ => []
  | _ :: r, 0, v => some v :: vg_n0 r
  | x :: r, 1, v => vg_k x :: vg_s2 r 0 v
  | x :: r, i + 2, v => x :: vg_s2 r (i + 1) v
def vg_cat : List Value → Nat
  | [] => 0
  | v :: r => v.category + vg_cat r
/-- the last n of a stack, as arguments, in front of acc -/
def vg_args : Nat → List Value → List Value → List Value
  | 0, _, acc => acc
  | n + 1, v :: r, acc => vg_args n r (v :: acc)
  | _ + 1, [], acc => acc
def vg_drop : Nat → List Value → List Value
  | 0, r => r
  | n + 1, _ :: r => vg_drop n r
  | _ + 1, [] => []
/-- an index lies within -/
def vg_ix (i : Int32) (n : Nat) : Prop := 0 ≤ i.toInt ∧ i.toInt < (n : Int)
def vg_c0 (c : Jvm.ClassFile.Cond) (x : Int32) : Prop := match c with
  | .eq => x.toInt = 0
  | .ne => ¬ x.toInt = 0
  | .lt => x.toInt < 0
  | .ge => 0 ≤ x.toInt
  | .gt => 0 < x.toInt
  | .le => x.toInt ≤ 0
def vg_c2 (c : Jvm.ClassFile.Cond) (x y : Int32) : Prop := match c with
  | .eq => x.toInt = y.toInt
  | .ne => ¬ x.toInt = y.toInt
  | .lt => x.toInt < y.toInt
  | .ge => y.toInt ≤ x.toInt
  | .gt => y.toInt < x.toInt
  | .le => x.toInt ≤ y.toInt
/-- every place of a list that the index may name -/
def vg_al (f : Nat → Prop) (i : Int32) : Nat → List Nat → Prop
  | _, [] => True
  | j, k :: r => (i.toInt = (j : Int) → f k) ∧ vg_al f i (j + 1) r
def vg_any (f : Nat → Prop) : List Nat → Prop
  | [] => True
  | k :: r => f k ∧ vg_any f r
def vg_tb (f : Nat → Prop) (pc : Nat) (x : Int32) : Int → List Int → Prop
  | _, [] => True
  | lo, o :: r => (x.toInt = lo → f ((pc : Int) + o).toNat) ∧ vg_tb f pc x (lo + 1) r
def vg_lk (f : Nat → Prop) (pc : Nat) (x : Int32) (d : Int) : List (Int × Int) → Prop
  | [] => f ((pc : Int) + d).toNat
  | (a, o) :: r => (x.toInt = a → f ((pc : Int) + o).toNat) ∧ (¬ x.toInt = a → vg_lk f pc x d r)
/-- a call -/
def vg_call (r : vg_R) (as rest : List Value) (σ : vg_S) (K : List Value → vg_S → Prop) : Prop :=
  vg_cat rest ≤ 8 ∧ r.2.1 as σ ∧ (match r.1.2.2.2.2.2.2.1 with
  | 0 => ∀ σ', r.2.2 as σ none σ' → K rest σ'
  | 1 => ∀ (x : Int32) σ', r.2.2 as σ (some (.int x)) σ' → K (.int x :: rest) σ'
  | 2 => ∀ (x : Int64) σ', r.2.2 as σ (some (.long x)) σ' → K (.long x :: rest) σ'
  | _ => vg_any (fun k => ∀ σ', r.2.2 as σ (some (.ref k)) σ' → K (.ref k :: rest) σ') r.1.2.2.2.2.2.2.2.1)
def vg_jp (J : Nat → Prop) (pc : Nat) (off : Int) : Prop := J ((pc : Int) + off).toNat
/-- one instruction: K goes on behind it, J goes on at another pc, po is what the method owes at its end -/
def vg_ex (sh : List vg_C) (ro : Nat → Option (Nat × (Nat → Int32))) (cs : List vg_R) (po : Option Value → vg_S → Prop) (K : vg_L → List Value → vg_S → Prop) (J : vg_L → List Value → vg_S → Nat → Prop) (q : vg_I) (L : vg_L) (st : List Value) (σ : vg_S) : Prop := match q with
  | (pc, op, _, a, b, c, z) => match op with
    | .iconst i => K L (.int (Int32.ofInt i) :: st) σ
    | .bipush i => K L (.int (Int32.ofInt i) :: st) σ
    | .sipush i => K L (.int (Int32.ofInt i) :: st) σ
    | .lconst i => K L (.long (Int64.ofNat (i : Nat)) :: st) σ
    | .ldc _ => K L (.int (Int32.ofInt z) :: st) σ
    | .ldc_w _ => K L (.int (Int32.ofInt z) :: st) σ
    | .ldc2_w _ => K L (.long (Int64.ofInt z) :: st) σ
    | .iload_n i => (match vg_nth L i with
      | some (some (.int x)) => K L (.int x :: st) σ
      | _ => False)
    | .iload i => (match vg_nth L i with
      | some (some (.int x)) => K L (.int x :: st) σ
      | _ => False)
    | .lload_n i => (match vg_nth L i with
      | some (some (.long x)) => K L (.long x :: st) σ
      | _ => False)
    | .lload i => (match vg_nth L i with
      | some (some (.long x)) => K L (.long x :: st) σ
      | _ => False)
    | .aload_n i => (match vg_nth L i with
      | some (some (.ref x)) => K L (.ref x :: st) σ
      | _ => False)
    | .aload i => (match vg_nth L i with
      | some (some (.ref x)) => K L (.ref x :: st) σ
      | _ => False)
    | .istore_n i => (match vg_nth L i, st with
      | some _, .int x :: st => K (vg_s1 L i (.int x)) st σ
      | _, _ => False)
    | .istore i => (match vg_nth L i, st with
      | some _, .int x :: st => K (vg_s1 L i (.int x)) st σ
      | _, _ => False)
    | .astore_n i => (match vg_nth L i, st with
      | some _, .ref x :: st => K (vg_s1 L i (.ref x)) st σ
      | _, _ => False)
    | .astore i => (match vg_nth L i, st with
      | some _, .ref x :: st => K (vg_s1 L i (.ref x)) st σ
      | _, _ => False)
    | .lstore_n i => (match vg_nth L (i + 1), st with
      | some _, .long x :: st => K (vg_s2 L i (.long x)) st σ
      | _, _ => False)
    | .lstore i => (match vg_nth L (i + 1), st with
      | some _, .long x :: st => K (vg_s2 L i (.long x)) st σ
      | _, _ => False)
    | .iinc i n => (match vg_nth L i with
      | some (some (.int x)) => ∀ v, v = x + Int32.ofInt n → K (vg_s1 L i (.int v)) st σ
      | _ => False)
    | .iadd => (match st with
      | .int y :: .int x :: st => ∀ v, v = x + y → K L (.int v :: st) σ
      | _ => False)
    | .isub => (match st with
      | .int y :: .int x :: st => ∀ v, v = x - y → K L (.int v :: st) σ
      | _ => False)
    | .imul => (match st with
      | .int y :: .int x :: st => ∀ v, v = x * y → K L (.int v :: st) σ
      | _ => False)
    | .iand => (match st with
      | .int y :: .int x :: st => ∀ v, v = x &&& y → K L (.int v :: st) σ
      | _ => False)
    | .ior => (match st with
      | .int y :: .int x :: st => ∀ v, v = x ||| y → K L (.int v :: st) σ
      | _ => False)
    | .ixor => (match st with
      | .int y :: .int x :: st => ∀ v, v = x ^^^ y → K L (.int v :: st) σ
      | _ => False)
    | .ishl => (match st with
      | .int y :: .int x :: st => ∀ v, v = x <<< (y &&& 31) → K L (.int v :: st) σ
      | _ => False)
    | .ishr => (match st with
      | .int y :: .int x :: st => ∀ v, v = x >>> (y &&& 31) → K L (.int v :: st) σ
      | _ => False)
    | .iushr => (match st with
      | .int y :: .int x :: st => ∀ v, v = (x.toUInt32 >>> (y.toUInt32 &&& Int32.toUInt32 31)).toInt32 → K L (.int v :: st) σ
      | _ => False)
    | .ineg => (match st with
      | .int x :: st => ∀ v, v = -x → K L (.int v :: st) σ
      | _ => False)
    | .idiv => (match st with
      | .int y :: .int x :: st => ¬ y.toInt = 0 ∧ ∀ v, v = x / y → K L (.int v :: st) σ
      | _ => False)
    | .irem => (match st with
      | .int y :: .int x :: st => ¬ y.toInt = 0 ∧ ∀ v, v = x - x / y * y → K L (.int v :: st) σ
      | _ => False)
    | .ladd => (match st with
      | .long y :: .long x :: st => ∀ v, v = x + y → K L (.long v :: st) σ
      | _ => False)
    | .lsub => (match st with
      | .long y :: .long x :: st => ∀ v, v = x - y → K L (.long v :: st) σ
      | _ => False)
    | .lmul => (match st with
      | .long y :: .long x :: st => ∀ v, v = x * y → K L (.long v :: st) σ
      | _ => False)
    | .land => (match st with
      | .long y :: .long x :: st => ∀ v, v = x &&& y → K L (.long v :: st) σ
      | _ => False)
    | .lneg => (match st with
      | .long x :: st => ∀ v, v = -x → K L (.long v :: st) σ
      | _ => False)
    | .ldiv => (match st with
      | .long y :: .long x :: st => ¬ y.toInt = 0 ∧ ∀ v, v = x / y → K L (.long v :: st) σ
      | _ => False)
    | .lrem => (match st with
      | .long y :: .long x :: st => ¬ y.toInt = 0 ∧ ∀ v, v = x - x / y * y → K L (.long v :: st) σ
      | _ => False)
    | .lshl => (match st with
      | .int y :: .long x :: st => ∀ v, v = x <<< (y.toInt64 &&& 63) → K L (.long v :: st) σ
      | _ => False)
    | .lshr => (match st with
      | .int y :: .long x :: st => ∀ v, v = x >>> (y.toInt64 &&& 63) → K L (.long v :: st) σ
      | _ => False)
    | .lcmp => (match st with
      | .long y :: .long x :: st => ∀ v, v = lg_cmp x y → K L (.int v :: st) σ
      | _ => False)
    | .i2l => (match st with
      | .int x :: st => ∀ v, v = x.toInt64 → K L (.long v :: st) σ
      | _ => False)
    | .l2i => (match st with
      | .long x :: st => ∀ v, v = x.toInt32 → K L (.int v :: st) σ
      | _ => False)
    | .dup => (match st with
      | .int x :: st => K L (.int x :: .int x :: st) σ
      | .ref x :: st => K L (.ref x :: .ref x :: st) σ
      | _ => False)
    | .dup2 => (match st with
      | .int x :: .ref y :: st => K L (.int x :: .ref y :: .int x :: .ref y :: st) σ
      | .long x :: st => K L (.long x :: .long x :: st) σ
      | _ => False)
    | .pop => (match st with
      | .int _ :: st => K L st σ
      | _ => False)
    | .pop2 => (match st with
      | .long _ :: st => K L st σ
      | _ => False)
    | .goto off => vg_jp (J L st σ) pc off
    | .ifCond cd off => (match st with
      | .int x :: st => (vg_c0 cd x → vg_jp (J L st σ) pc off) ∧ (¬ vg_c0 cd x → K L st σ)
      | _ => False)
    | .if_icmp cd off => (match st with
      | .int y :: .int x :: st => (vg_c2 cd x y → vg_jp (J L st σ) pc off) ∧ (¬ vg_c2 cd x y → K L st σ)
      | _ => False)
    | .tableswitch d lo hi offs => (match st with
      | .int x :: st => (x.toInt < lo ∨ hi < x.toInt → vg_jp (J L st σ) pc d) ∧ vg_tb (J L st σ) pc x lo offs.toList
      | _ => False)
    | .lookupswitch d ps => (match st with
      | .int x :: st => vg_lk (J L st σ) pc x d ps.toList
      | _ => False)
    | .getfield _ => (match st with
      | .ref r :: st => (match vg_nth sh r with
        | some (.inr (ci, ks)) => (match Nat.beq ci b, vg_nth ks c with
          | true, some 0 => ∀ v, v = σ.1 r c → K L (.int v :: st) σ
          | true, some 1 => ∀ v, v = σ.2 r c → K L (.long v :: st) σ
          | true, some (n + 2) => K L (.ref n :: st) σ
          | _, _ => False)
        | _ => False)
      | _ => False)
    | .putfield _ => (match st with
      | .int x :: .ref r :: st => (match vg_nth sh r with
        | some (.inr (ci, ks)) => (match Nat.beq ci b, vg_nth ks c, z with
          | true, some 0, .ofNat 0 => ∀ σ', σ' = vg_u1 σ r c x → K L st σ'
          | true, some 0, .ofNat 1 => (x = 0 ∨ x = 1) ∧ ∀ σ', σ' = vg_u1 σ r c x → K L st σ'
          | _, _, _ => False)
        | _ => False)
      | .long x :: .ref r :: st => (match vg_nth sh r with
        | some (.inr (ci, ks)) => (match Nat.beq ci b, vg_nth ks c, z with
          | true, some 1, .ofNat 2 => ∀ σ', σ' = vg_u2 σ r c x → K L st σ'
          | _, _, _ => False)
        | _ => False)
      | _ => False)
    | .getstatic _ => (match ro a with
      | some _ => K L (.ref a :: st) σ
      | none => False)
    | .iaload => (match st with
      | .int i :: .ref r :: st => (match vg_nth sh r with
        | some (.inl (0, n, _)) => vg_ix i n ∧ ∀ v, v = σ.1 r i.toNatClampNeg → K L (.int v :: st) σ
        | none => (match ro r with
          | some (n, f) => vg_ix i n ∧ ∀ v, v = f i.toNatClampNeg → K L (.int v :: st) σ
          | none => False)
        | _ => False)
      | _ => False)
    | .laload => (match st with
      | .int i :: .ref r :: st => (match vg_nth sh r with
        | some (.inl (1, n, _)) => vg_ix i n ∧ ∀ v, v = σ.2 r i.toNatClampNeg → K L (.long v :: st) σ
        | _ => False)
      | _ => False)
    | .aaload => (match st with
      | .int i :: .ref r :: st => (match vg_nth sh r with
        | some (.inl (_ + 2, n, rs)) => Nat.ble n rs.length = true ∧ vg_ix i n ∧ vg_al (fun k => K L (.ref k :: st) σ) i 0 rs
        | _ => False)
      | _ => False)
    | .iastore => (match st with
      | .int x :: .int i :: .ref r :: st => (match vg_nth sh r with
        | some (.inl (0, n, _)) => vg_ix i n ∧ ∀ σ', σ' = vg_u1 σ r i.toNatClampNeg x → K L st σ'
        | _ => False)
      | _ => False)
    | .lastore => (match st with
      | .long x :: .int i :: .ref r :: st => (match vg_nth sh r with
        | some (.inl (1, n, _)) => vg_ix i n ∧ ∀ σ', σ' = vg_u2 σ r i.toNatClampNeg x → K L st σ'
        | _ => False)
      | _ => False)
    | .arraylength => (match st with
      | .ref r :: st => (match vg_nth sh r with
        | some (.inl (_, n, _)) => K L (.int (Int32.ofNat n) :: st) σ
        | none => (match ro r with
          | some (n, _) => K L (.int (Int32.ofNat n) :: st) σ
          | none => False)
        | _ => False)
      | _ => False)
    | .invokevirtual _ => (match vg_nth cs a, vg_drop c st with
      | some r, .ref o :: rest => (match vg_nth sh o with
        | some (.inr (ci, _)) => (match Nat.beq ci b, Nat.ble c st.length with
          | true, true => vg_call r (.ref o :: vg_args c st []) rest σ (fun st σ => K L st σ)
          | _, _ => False)
        | _ => False)
      | _, _ => False)
    | .invokestatic _ => (match b with
      | 3 => (match st with
        | .int n :: .int dp :: .ref kd :: .int sp :: .ref ks :: rest => (match vg_nth sh ks, vg_nth sh kd with
          | some (.inl (0, n0, _)), some (.inl (0, n1, _)) => vg_cat rest ≤ 8 ∧ 0 ≤ sp.toInt ∧ 0 ≤ dp.toInt ∧ 0 ≤ n.toInt ∧ sp.toInt + n.toInt ≤ (n0 : Int) ∧ dp.toInt + n.toInt ≤ (n1 : Int) ∧ ∀ σ', σ' = vg_w1 σ kd (va_cpy (σ.1 ks) (σ.1 kd) sp.toNatClampNeg dp.toNatClampNeg n.toNatClampNeg) → K L rest σ'
          | _, _ => False)
        | _ => False)
      | _ => (match vg_nth cs a, Nat.ble c st.length with
        | some r, true => vg_call r (vg_args c st []) (vg_drop c st) σ (fun st σ => K L st σ)
        | _, _ => False))
    | .ireturn => (match st, z with
      | [.int x], .ofNat 0 => po (some (.int x)) σ
      | [.int x], .ofNat 1 => (x = 0 ∨ x = 1) ∧ po (some (.int x)) σ
      | _, _ => False)
    | .lreturn => (match st with
      | [.long x] => po (some (.long x)) σ
      | _ => False)
    | .areturn => (match st with
      | [.ref k] => po (some (.ref k)) σ
      | _ => False)
    | .return_ => (match st with
      | [] => po none σ
      | _ => False)
    | _ => False
def vg_find : List vg_I → Nat → List vg_I
  | [], _ => []
  | q :: r, pc => match Nat.beq q.1 pc with
    | true => q :: r
    | false => vg_find r pc
/-- a cut: which locals are kept, what holds there, a measure -/
abbrev vg_V : Type := List Bool × (vg_L → vg_S → Prop) × (vg_L → vg_S → Nat)
def vg_mask : List Bool → vg_L → vg_L
  | _, [] => []
  | [], _ :: r => none :: vg_mask [] r
  | true :: b, x :: r => x :: vg_mask b r
  | false :: b, _ :: r => none :: vg_mask b r
def vg_lkp : List (Nat × vg_V) → Nat → Option vg_V
  | [], _ => none
  | q :: r, h => match Nat.beq q.1 h with
    | true => some q.2
    | false => vg_lkp r h
/-- the int in a local -/
def vg_li (L : vg_L) (i : Nat) : Int32 := match vg_nth L i with
  | some (some (.int x)) => x
  | _ => 0
def vg_bd (bd : Option Nat) (k : Nat) : Prop := match bd with
  | none => True
  | some m => k < m
/-- the walk: at a cut the cut's word is owed (and, with a bound, a lesser measure) -/
def vg (sh : List vg_C) (ro : Nat → Option (Nat × (Nat → Int32))) (cs : List vg_R) (po : Option Value → vg_S → Prop) (I : Nat → Option vg_V) (cd : List vg_I) (bd : Option Nat) : Nat → Bool → List vg_I → vg_L → List Value → vg_S → Prop
  | 0, _, _, _, _, _ => False
  | _ + 1, _, [], _, _, _ => False
  | n + 1, true, q :: nx, L, st, σ => vg_ex sh ro cs po (fun L st σ => vg sh ro cs po I cd bd n false nx L st σ) (fun L st σ t => vg sh ro cs po I cd bd n false (vg_find cd t) L st σ) q L st σ
  | n + 1, false, q :: nx, L, st, σ => match I q.1 with
    | none => vg_ex sh ro cs po (fun L st σ => vg sh ro cs po I cd bd n false nx L st σ) (fun L st σ t => vg sh ro cs po I cd bd n false (vg_find cd t) L st σ) q L st σ
    | some iv => st = [] ∧ iv.2.1 (vg_mask iv.1 L) σ ∧ vg_bd bd (iv.2.2 (vg_mask iv.1 L) σ)
end
section
/-! places and addresses, worlds, locals -/
/-- the classes' and slots' numbers, the array classes, the address of a place -/
abbrev vg_G : Type := va_G × (Nat → ClassId) × (Nat → Nat)
def vg_cv (ad : Nat → Nat) (v : Value) : Value := match v with
  | .ref k => .ref (ad k)
  | v => v
theorem vg_cv_cat (ad : Nat → Nat) (v : Value) : (vg_cv ad v).category = v.category := by cases v <;> rfl
theorem vg_cat_eq (ad : Nat → Nat) : ∀ st : List Value, ((st.map (vg_cv ad)).map fun v => v.category).sum = vg_cat st
  | [] => rfl
  | v :: r => by
    have h := vg_cat_eq ad r
    simp only [List.map_cons, List.sum_cons, vg_cat, vg_cv_cat] at h ⊢
    rw [h]
def vg_fv (ad : Nat → Nat) (f : Nat → Int32) (g : Nat → Int64) (kd i : Nat) : Value := match kd with
  | 0 => .int (f i)
  | 1 => .long (g i)
  | n + 2 => .ref (ad n)
def vg_fl (ad : Nat → Nat) (f : Nat → Int32) (g : Nat → Int64) : Nat → List Nat → List Value
  | _, [] => []
  | i, kd :: r => vg_fv ad f g kd i :: vg_fl ad f g (i + 1) r
theorem vg_fl_at (ad : Nat → Nat) (f : Nat → Int32) (g : Nat → Int64) : ∀ (ks : List Nat) (i j : Nat), (vg_fl ad f g i ks)[j]? = (ks[j]?).map (fun kd => vg_fv ad f g kd (i + j))
  | [], i, j => by simp [vg_fl]
  | kd :: r, i, 0 => by simp [vg_fl]
  | kd :: r, i, j + 1 => by
    simp only [vg_fl, List.getElem?_cons_succ]
    rw [vg_fl_at ad f g r (i + 1) j, Nat.add_assoc, Nat.add_comm 1 j]
theorem vg_fl_len (ad : Nat → Nat) (f : Nat → Int32) (g : Nat → Int64) : ∀ (ks : List Nat) (i : Nat), (vg_fl ad f g i ks).length = ks.length
  | [], i => rfl
  | kd :: r, i => by simp [vg_fl, vg_fl_len ad f g r (i + 1)]
theorem vg_fl_set1 (ad : Nat → Nat) (f : Nat → Int32) (g : Nat → Int64) (ks : List Nat) (i : Nat) (x : Int32) (h : ks[i]? = some 0) : (vg_fl ad f g 0 ks).set i (.int x) = vg_fl ad (upd f i x) g 0 ks := by
  apply List.ext_getElem?
  intro j
  rw [List.getElem?_set, vg_fl_at, vg_fl_at]
  by_cases hj : i = j
  · subst hj
    have hlt : i < (vg_fl ad f g 0 ks).length := by rw [vg_fl_len]; exact (List.getElem?_eq_some_iff.mp h).1
    rw [if_pos rfl, if_pos hlt, h]
    simp [vg_fv, upd]
  · rw [if_neg hj]
    cases hk : ks[j]? with
    | none => rfl
    | some kd =>
      match kd with
      | 0 => simp [vg_fv, upd, Ne.symm hj]
      | 1 => rfl
      | n + 2 => rfl
theorem vg_fl_set2 (ad : Nat → Nat) (f : Nat → Int32) (g : Nat → Int64) (ks : List Nat) (i : Nat) (x : Int64) (h : ks[i]? = some 1) : (vg_fl ad f g 0 ks).set i (.long x) = vg_fl ad f (vp_updL g i x) 0 ks := by
  apply List.ext_getElem?
  intro j
  rw [List.getElem?_set, vg_fl_at, vg_fl_at]
  by_cases hj : i = j
  · subst hj
    have hlt : i < (vg_fl ad f g 0 ks).length := by rw [vg_fl_len]; exact (List.getElem?_eq_some_iff.mp h).1
    rw [if_pos rfl, if_pos hlt, h]
    simp [vg_fv, vp_updL]
  · rw [if_neg hj]
    cases hk : ks[j]? with
    | none => rfl
    | some kd =>
      match kd with
      | 0 => rfl
      | 1 => simp [vg_fv, vp_updL, Ne.symm hj]
      | n + 2 => rfl
def vg_ce (dA : Nat → ClassId) (ad : Nat → Nat) (f : Nat → Int32) (g : Nat → Int64) (c : vg_C) : va_E := match c with
  | .inl (0, n, _) => .inl (dA 0, n, .inl f)
  | .inl (1, n, _) => .inl (dA 1, n, .inr (.inl g))
  | .inl (t + 2, n, rs) => .inl (dA (t + 2), n, .inr (.inr (.inr (.inr (fun j => (rs[j]?).map ad)))))
  | .inr (ci, ks) => .inr (ci, vg_fl ad f g 0 ks)
def vg_cw (dA : Nat → ClassId) (ad : Nat → Nat) (σ : vg_S) : Nat → List vg_C → va_W
  | _, [] => []
  | k, c :: r => (ad k, vg_ce dA ad (σ.1 k) (σ.2 k) c) :: vg_cw dA ad σ (k + 1) r
theorem vg_cw_at (dA : Nat → ClassId) (ad : Nat → Nat) (σ : vg_S) : ∀ (cs : List vg_C) (i j : Nat), (vg_cw dA ad σ i cs)[j]? = (cs[j]?).map (fun c => (ad (i + j), vg_ce dA ad (σ.1 (i + j)) (σ.2 (i + j)) c))
  | [], i, j => by simp [vg_cw]
  | c :: r, i, 0 => by simp [vg_cw]
  | c :: r, i, j + 1 => by
    simp only [vg_cw, List.getElem?_cons_succ]
    rw [vg_cw_at dA ad σ r (i + 1) j, Nat.add_assoc, Nat.add_comm 1 j]
theorem vg_cw_len (dA : Nat → ClassId) (ad : Nat → Nat) (σ : vg_S) : ∀ (cs : List vg_C) (i : Nat), (vg_cw dA ad σ i cs).length = cs.length
  | [], i => rfl
  | c :: r, i => by simp [vg_cw, vg_cw_len dA ad σ r (i + 1)]
theorem vg_cw_set1 (dA : Nat → ClassId) (ad : Nat → Nat) (σ : vg_S) (cs : List vg_C) (k : Nat) (c : vg_C) (f : Nat → Int32) (h : cs[k]? = some c) : (vg_cw dA ad σ 0 cs).set k (ad k, vg_ce dA ad f (σ.2 k) c) = vg_cw dA ad (vg_w1 σ k f) 0 cs := by
  apply List.ext_getElem?
  intro j
  rw [List.getElem?_set, vg_cw_at, vg_cw_at]
  by_cases hj : k = j
  · subst hj
    have hlt : k < (vg_cw dA ad σ 0 cs).length := by rw [vg_cw_len]; exact (List.getElem?_eq_some_iff.mp h).1
    rw [if_pos rfl, if_pos hlt, h]
    simp [vg_w1]
  · rw [if_neg hj]
    simp [vg_w1, Ne.symm hj]
theorem vg_cw_set2 (dA : Nat → ClassId) (ad : Nat → Nat) (σ : vg_S) (cs : List vg_C) (k : Nat) (c : vg_C) (g : Nat → Int64) (h : cs[k]? = some c) : (vg_cw dA ad σ 0 cs).set k (ad k, vg_ce dA ad (σ.1 k) g c) = vg_cw dA ad (vg_w2 σ k g) 0 cs := by
  apply List.ext_getElem?
  intro j
  rw [List.getElem?_set, vg_cw_at, vg_cw_at]
  by_cases hj : k = j
  · subst hj
    have hlt : k < (vg_cw dA ad σ 0 cs).length := by rw [vg_cw_len]; exact (List.getElem?_eq_some_iff.mp h).1
    rw [if_pos rfl, if_pos hlt, h]
    simp [vg_w2]
  · rw [if_neg hj]
    simp [vg_w2, Ne.symm hj]
/-- the cells of the places -/
def vg_A (ad : Nat → Nat) (n : Nat) : Nat → Prop := fun q => ∃ k, k < n ∧ q = ad k
theorem vg_cw_D (dA : Nat → ClassId) (ad : Nat → Nat) (σ : vg_S) (cs : List vg_C) (hap : ∀ i j, i < cs.length → j < cs.length → ad i = ad j → i = j) : va_D (vg_A ad cs.length) (vg_cw dA ad σ 0 cs) := by
  refine ⟨fun i j x y hx hy hxy => ?_, fun k q hk => ?_⟩
  · rw [vg_cw_at] at hx hy
    cases hi : cs[i]? with
    | none => rw [hi] at hx; cases hx
    | some ci =>
      cases hj : cs[j]? with
      | none => rw [hj] at hy; cases hy
      | some cj =>
        rw [hi] at hx
        rw [hj] at hy
        cases hx
        cases hy
        simp only [Nat.zero_add] at hxy
        exact hap i j (List.getElem?_eq_some_iff.mp hi).1 (List.getElem?_eq_some_iff.mp hj).1 hxy
  · rw [vg_cw_at] at hk
    cases hi : cs[k]? with
    | none => rw [hi] at hk; cases hk
    | some ci =>
      rw [hi] at hk
      cases hk
      exact ⟨k, (List.getElem?_eq_some_iff.mp hi).1, by simp⟩
/-! locals -/
def vg_la (ad : Nat → Nat) : Nat → vg_L → List (Nat × Value)
  | _, [] => []
  | i, none :: r => vg_la ad (i + 1) r
  | i, some v :: r => (i, vg_cv ad v) :: vg_la ad (i + 1) r
theorem vg_la_in (ad : Nat → Nat) : ∀ (L : vg_L) (i k : Nat) (v : Value), vg_nth L k = some (some v) → (i + k, vg_cv ad v) ∈ vg_la ad i L
  | [], i, k, v, h => by simp [vg_nth] at h
  | none :: r, i, 0, v, h => by simp [vg_nth] at h
  | some w :: r, i, 0, v, h => by
    simp only [vg_nth, Option.some.injEq] at h
    subst h
    exact List.mem_cons_self
  | none :: r, i, k + 1, v, h => by
    have h2 := vg_la_in ad r (i + 1) k v h
    rw [Nat.add_assoc, Nat.add_comm 1 k] at h2
    exact h2
  | some w :: r, i, k + 1, v, h => by
    have h2 := vg_la_in ad r (i + 1) k v h
    rw [Nat.add_assoc, Nat.add_comm 1 k] at h2
    exact List.mem_cons_of_mem _ h2
theorem vg_la_of (ad : Nat → Nat) : ∀ (L : vg_L) (i : Nat) (q : Nat × Value), q ∈ vg_la ad i L → ∃ (k : Nat) (v : Value), q = (i + k, vg_cv ad v) ∧ vg_nth L k = some (some v)
  | [], i, q, h => by cases h
  | none :: r, i, q, h => by
    obtain ⟨k, v, h1, h2⟩ := vg_la_of ad r (i + 1) q h
    exact ⟨k + 1, v, by rw [h1, Nat.add_assoc, Nat.add_comm 1 k], h2⟩
  | some w :: r, i, q, h => by
    rcases List.mem_cons.mp h with h | h
    · exact ⟨0, w, h, rfl⟩
    · obtain ⟨k, v, h1, h2⟩ := vg_la_of ad r (i + 1) q h
      exact ⟨k + 1, v, by rw [h1, Nat.add_assoc, Nat.add_comm 1 k], h2⟩
def vg_lr (ad : Nat → Nat) (ls : Array Slot) (nL : Nat) (L : vg_L) : Prop := lv_has ls nL (vg_la ad 0 L) ∧ L.length = nL
theorem vg_lr.at {ad : Nat → Nat} {ls : Array Slot} {nL : Nat} {L : vg_L} (h : vg_lr ad ls nL L) {k : Nat} {v : Value} (hk : vg_nth L k = some (some v)) : ls[k]? = some (.val (vg_cv ad v)) := by
  have h2 := h.1.2.2 _ (vg_la_in ad L 0 k v hk)
  simpa using h2
theorem vg_nth_lt {α : Type} {L : List α} {k : Nat} {x : α} (h : vg_nth L k = some x) : k < L.length := by
  rw [vg_nth_eq] at h
  exact (List.getElem?_eq_some_iff.mp h).1
theorem vg_s1_len : ∀ (L : vg_L) (i : Nat) (v : Value), (vg_s1 L i v).length = L.length
  | [], i, v => by simp [vg_s1]
  | x :: r, 0, v => by simp [vg_s1]
  | x :: r, 1, v => by simp [vg_s1, vg_s1_len r 0 v]
  | x :: r, i + 2, v => by simp [vg_s1, vg_s1_len r (i + 1) v]
theorem vg_k_some {x : Option Value} {w : Value} (h : vg_k x = some w) : x = some w ∧ ¬ w.category = 2 := by
  cases x with
  | none => simp [vg_k] at h
  | some y => cases y <;> simp [vg_k] at h <;> subst h <;> exact ⟨rfl, by simp [Value.category]⟩
theorem vg_s1_nth : ∀ (L : vg_L) (i : Nat) (v : Value) (k : Nat) (w : Value), vg_nth (vg_s1 L i v) k = some (some w) → (k = i ∧ w = v) ∨ (k ≠ i ∧ vg_nth L k = some (some w) ∧ ¬ (k + 1 = i ∧ w.category = 2))
  | [], i, v, k, w, h => by simp [vg_s1, vg_nth] at h
  | x :: r, 0, v, 0, w, h => by
    simp only [vg_s1, vg_nth, Option.some.injEq] at h
    exact Or.inl ⟨rfl, h.symm⟩
  | x :: r, 0, v, k + 1, w, h => Or.inr ⟨by omega, h, by omega⟩
  | x :: r, 1, v, 0, w, h => by
    simp only [vg_s1, vg_nth, Option.some.injEq] at h
    obtain ⟨h1, h2⟩ := vg_k_some h
    exact Or.inr ⟨by omega, by simp [vg_nth, h1], fun q => h2 q.2⟩
  | x :: r, 1, v, k + 1, w, h => by
    rcases vg_s1_nth r 0 v k w h with ⟨h1, h2⟩ | ⟨h1, h2, h3⟩
    · exact Or.inl ⟨by omega, h2⟩
    · exact Or.inr ⟨by omega, h2, by omega⟩
  | x :: r, i + 2, v, 0, w, h => Or.inr ⟨by omega, h, by omega⟩
  | x :: r, i + 2, v, k + 1, w, h => by
    rcases vg_s1_nth r (i + 1) v k w h with ⟨h1, h2⟩ | ⟨h1, h2, h3⟩
    · exact Or.inl ⟨by omega, h2⟩
    · exact Or.inr ⟨by omega, h2, fun q => h3 ⟨by omega, q.2⟩⟩
theorem vg_lr.s1 {ad : Nat → Nat} {ls ls' : Array Slot} {nL : Nat} {L : vg_L} (h : vg_lr ad ls nL L) {i : Nat} {v : Value} (h' : lv_has ls' nL ((i, vg_cv ad v) :: (vg_la ad 0 L).filter (fun q => !(q.1 == i) && !(q.1 + 1 == i && q.2.category == 2)))) : vg_lr ad ls' nL (vg_s1 L i v) := by
  refine ⟨⟨h'.1, h'.2.1, fun q hq => h'.2.2 q ?_⟩, by rw [vg_s1_len]; exact h.2⟩
  obtain ⟨k, w, rfl, hk⟩ := vg_la_of ad _ _ _ hq
  rw [Nat.zero_add]
  rcases vg_s1_nth L i v k w hk with ⟨rfl, rfl⟩ | ⟨h1, h2, h3⟩
  · exact List.mem_cons_self
  · refine List.mem_cons_of_mem _ (List.mem_filter.mpr ⟨by simpa using vg_la_in ad L 0 k w h2, ?_⟩)
    simp only [vg_cv_cat, Bool.and_eq_true, Bool.not_eq_true', Bool.and_eq_false_iff, beq_eq_false_iff_ne, ne_eq]
    refine ⟨h1, ?_⟩
    by_cases hk1 : k + 1 = i
    · exact Or.inr (fun q => h3 ⟨hk1, q⟩)
    · exact Or.inl hk1
theorem vg_s2_nth : ∀ (L : vg_L) (i : Nat) (v : Value) (k : Nat) (w : Value), vg_nth (vg_s2 L i v) k = some (some w) → (k = i ∧ w = v) ∨ (k ≠ i ∧ k ≠ i + 1 ∧ vg_nth L k = some (some w) ∧ ¬ (k + 1 = i ∧ w.category = 2))
  | [], i, v, k, w, h => by simp [vg_s2, vg_nth] at h
  | x :: r, 0, v, 0, w, h => by
    simp only [vg_s2, vg_nth, Option.some.injEq] at h
    exact Or.inl ⟨rfl, h.symm⟩
  | [x], 0, v, k + 1, w, h => by simp [vg_s2, vg_n0, vg_nth] at h
  | x :: y :: r, 0, v, 1, w, h => by simp [vg_s2, vg_n0, vg_nth] at h
  | x :: y :: r, 0, v, k + 2, w, h => Or.inr ⟨by omega, by omega, h, by omega⟩
  | x :: r, 1, v, 0, w, h => by
    simp only [vg_s2, vg_nth, Option.some.injEq] at h
    obtain ⟨h1, h2⟩ := vg_k_some h
    exact Or.inr ⟨by omega, by omega, by simp [vg_nth, h1], fun q => h2 q.2⟩
  | x :: r, 1, v, k + 1, w, h => by
    rcases vg_s2_nth r 0 v k w h with ⟨h1, h2⟩ | ⟨h1, h0, h2, h3⟩
    · exact Or.inl ⟨by omega, h2⟩
    · exact Or.inr ⟨by omega, by omega, h2, by omega⟩
  | x :: r, i + 2, v, 0, w, h => Or.inr ⟨by omega, by omega, h, by omega⟩
  | x :: r, i + 2, v, k + 1, w, h => by
    rcases vg_s2_nth r (i + 1) v k w h with ⟨h1, h2⟩ | ⟨h1, h0, h2, h3⟩
    · exact Or.inl ⟨by omega, h2⟩
    · exact Or.inr ⟨by omega, by omega, h2, fun q => h3 ⟨by omega, q.2⟩⟩
theorem vg_s2_len : ∀ (L : vg_L) (i : Nat) (v : Value), i + 1 < L.length → (vg_s2 L i v).length = L.length
  | [], i, v, h => by simp at h
  | [x], i, v, h => by simp at h
  | x :: y :: r, 0, v, h => by simp [vg_s2, vg_n0]
  | x :: r, 1, v, h => by
    have := vg_s2_len r 0 v (by simp at h; omega)
    simp [vg_s2, this]
  | x :: r, i + 2, v, h => by
    have := vg_s2_len r (i + 1) v (by simp at h; omega)
    simp [vg_s2, this]
theorem vg_lr.s2 {ad : Nat → Nat} {ls ls' : Array Slot} {nL : Nat} {L : vg_L} (h : vg_lr ad ls nL L) {i : Nat} {v : Value} (hi : i + 1 < L.length) (h' : lv_has ls' nL ((i, vg_cv ad v) :: (vg_la ad 0 L).filter (fun q => !(q.1 == i) && (!(q.1 == i + 1) && !(q.1 + 1 == i && q.2.category == 2))))) : vg_lr ad ls' nL (vg_s2 L i v) := by
  refine ⟨⟨h'.1, h'.2.1, fun q hq => h'.2.2 q ?_⟩, by rw [vg_s2_len _ _ _ hi]; exact h.2⟩
  obtain ⟨k, w, rfl, hk⟩ := vg_la_of ad _ _ _ hq
  rw [Nat.zero_add]
  rcases vg_s2_nth L i v k w hk with ⟨rfl, rfl⟩ | ⟨h1, h0, h2, h3⟩
  · exact List.mem_cons_self
  · refine List.mem_cons_of_mem _ (List.mem_filter.mpr ⟨by simpa using vg_la_in ad L 0 k w h2, ?_⟩)
    simp only [vg_cv_cat, Bool.and_eq_true, Bool.not_eq_true', Bool.and_eq_false_iff, beq_eq_false_iff_ne, ne_eq]
    refine ⟨h1, h0, ?_⟩
    by_cases hk1 : k + 1 = i
    · exact Or.inr (fun q => h3 ⟨hk1, q⟩)
    · exact Or.inl hk1
/-! arguments -/
theorem vg_args_eq : ∀ (n : Nat) (st acc : List Value), n ≤ st.length → vg_args n st acc = (st.take n).reverse ++ acc
  | 0, st, acc, _ => by simp [vg_args]
  | n + 1, [], acc, h => by simp at h
  | n + 1, v :: r, acc, h => by
    rw [vg_args, vg_args_eq n r (v :: acc) (by simp at h; omega)]
    simp
theorem vg_drop_eq : ∀ (n : Nat) (st : List Value), vg_drop n st = st.drop n
  | 0, st => by simp [vg_drop]
  | n + 1, [] => by simp [vg_drop]
  | n + 1, v :: r => by simp [vg_drop, vg_drop_eq n r]
theorem vg_stack (ad : Nat → Nat) (n : Nat) (st : List Value) (h : n ≤ st.length) : st.map (vg_cv ad) = ((vg_args n st []).map (vg_cv ad)).reverse ++ (vg_drop n st).map (vg_cv ad) := by
  rw [vg_args_eq n st [] h, vg_drop_eq, List.append_nil, List.map_reverse, List.reverse_reverse, ← List.map_append, List.take_append_drop]
theorem vg_args_len (n : Nat) (st : List Value) (h : n ≤ st.length) : (vg_args n st []).length = n := by
  rw [vg_args_eq n st [] h]
  simp
  omega
theorem vg_ix.in {i : Int32} {n : Nat} (h : vg_ix i n) : vp_in i n := by
  intro q
  obtain ⟨h1, h2⟩ := h
  rcases q with q | q
  · have := Int32.lt_iff_toInt_lt.mp q
    simp at this
    omega
  · have : i.toNatClampNeg = i.toInt.toNat := rfl
    omega
/-- the locals at a method's entry -/
def vg_l0 : List Value → vg_L
  | [] => []
  | .long x :: r => some (.long x) :: none :: vg_l0 r
  | .double x :: r => some (.double x) :: none :: vg_l0 r
  | v :: r => some v :: vg_l0 r
def vg_pad : Nat → vg_L → vg_L
  | 0, _ => []
  | n + 1, [] => none :: vg_pad n []
  | n + 1, x :: r => x :: vg_pad n r
theorem vg_pad_len : ∀ (n : Nat) (L : vg_L), (vg_pad n L).length = n
  | 0, L => by cases L <;> rfl
  | n + 1, [] => by simp [vg_pad, vg_pad_len n []]
  | n + 1, x :: r => by simp [vg_pad, vg_pad_len n r]
theorem vg_pad_nil_nth : ∀ (n k : Nat) (v : Value), vg_nth (vg_pad n []) k = some (some v) → False
  | 0, k, v, h => by simp [vg_pad, vg_nth] at h
  | n + 1, 0, v, h => by simp [vg_pad, vg_nth] at h
  | n + 1, k + 1, v, h => vg_pad_nil_nth n k v h
theorem vg_pad_nth : ∀ (n : Nat) (L : vg_L) (k : Nat) (v : Value), vg_nth (vg_pad n L) k = some (some v) → vg_nth L k = some (some v)
  | 0, L, k, v, h => by cases L <;> simp [vg_pad, vg_nth] at h
  | n + 1, [], k, v, h => (vg_pad_nil_nth (n + 1) k v h).elim
  | n + 1, x :: r, 0, v, h => h
  | n + 1, x :: r, k + 1, v, h => vg_pad_nth n r k v h
theorem vg_l0_in (ad : Nat → Nat) : ∀ (as : List Value) (i k : Nat) (v : Value), vg_nth (vg_l0 as) k = some (some v) → (i + k, vg_cv ad v) ∈ lv_args i (as.map (vg_cv ad)) := by
  intro as
  induction as with
  | nil => intro i k v h; simp [vg_l0, vg_nth] at h
  | cons a r ih =>
    intro i k v h
    have one : ∀ b : Value, b.category = 1 → vg_nth (some b :: vg_l0 r) k = some (some v) → (i + k, vg_cv ad v) ∈ lv_args i ((b :: r).map (vg_cv ad)) := by
      intro b hb hk
      simp only [List.map_cons, lv_args, vg_cv_cat, hb]
      match k, hk with
      | 0, hk =>
        simp only [vg_nth, Option.some.injEq] at hk
        subst hk
        exact List.mem_cons_self
      | k + 1, hk =>
        have := ih (i + 1) k v hk
        rw [Nat.add_assoc, Nat.add_comm 1 k] at this
        exact List.mem_cons_of_mem _ this
    have two : ∀ b : Value, b.category = 2 → vg_nth (some b :: none :: vg_l0 r) k = some (some v) → (i + k, vg_cv ad v) ∈ lv_args i ((b :: r).map (vg_cv ad)) := by
      intro b hb hk
      simp only [List.map_cons, lv_args, vg_cv_cat, hb]
      match k, hk with
      | 0, hk =>
        simp only [vg_nth, Option.some.injEq] at hk
        subst hk
        exact List.mem_cons_self
      | 1, hk => simp [vg_nth] at hk
      | k + 2, hk =>
        have := ih (i + 2) k v hk
        rw [Nat.add_assoc, Nat.add_comm 2 k] at this
        exact List.mem_cons_of_mem _ this
    cases a with
    | int x => exact one _ rfl h
    | long x => exact two _ rfl h
    | float x => exact one _ rfl h
    | double x => exact two _ rfl h
    | null => exact one _ rfl h
    | ref x => exact one _ rfl h
    | retAddr x => exact one _ rfl h
theorem vg_entry (ad : Nat → Nat) (as : List Value) (n : Nat) (h : (lg_sl (as.map (vg_cv ad))).length ≤ n) : vg_lr ad ((lg_sl (as.map (vg_cv ad)) ++ List.replicate (n - (lg_sl (as.map (vg_cv ad))).length) Slot.unset).toArray) n (vg_pad n (vg_l0 as)) := by
  have h1 := lv_entry (as.map (vg_cv ad)) (n := n) h
  refine ⟨⟨h1.1, h1.2.1, fun q hq => h1.2.2 q ?_⟩, vg_pad_len _ _⟩
  obtain ⟨k, v, rfl, hk⟩ := vg_la_of ad _ _ _ hq
  exact vg_l0_in ad as 0 k v (vg_pad_nth _ _ _ _ hk)
theorem vg_mask_nth : ∀ (ms : List Bool) (L : vg_L) (k : Nat) (v : Value), vg_nth (vg_mask ms L) k = some (some v) → vg_nth L k = some (some v)
  | ms, [], k, v, h => by cases ms <;> simp [vg_mask, vg_nth] at h
  | [], x :: r, 0, v, h => by simp [vg_mask, vg_nth] at h
  | true :: b, x :: r, 0, v, h => h
  | false :: b, x :: r, 0, v, h => by simp [vg_mask, vg_nth] at h
  | [], x :: r, k + 1, v, h => vg_mask_nth [] r k v h
  | true :: b, x :: r, k + 1, v, h => vg_mask_nth b r k v h
  | false :: b, x :: r, k + 1, v, h => vg_mask_nth b r k v h
theorem vg_mask_len : ∀ (ms : List Bool) (L : vg_L), (vg_mask ms L).length = L.length
  | ms, [] => by cases ms <;> simp [vg_mask]
  | [], x :: r => by simp [vg_mask, vg_mask_len [] r]
  | true :: b, x :: r => by simp [vg_mask, vg_mask_len b r]
  | false :: b, x :: r => by simp [vg_mask, vg_mask_len b r]
theorem vg_lr.mask {ad : Nat → Nat} {ls : Array Slot} {nL : Nat} {L : vg_L} (h : vg_lr ad ls nL L) (ms : List Bool) : vg_lr ad ls nL (vg_mask ms L) := by
  refine ⟨⟨h.1.1, h.1.2.1, fun q hq => h.1.2.2 q ?_⟩, by rw [vg_mask_len]; exact h.2⟩
  obtain ⟨k, w, rfl, hk⟩ := vg_la_of ad _ _ _ hq
  exact vg_la_in ad L 0 k w (vg_mask_nth ms L k w hk)
theorem vg_lkp_in : ∀ (l : List (Nat × vg_V)) (h : Nat) (iv : vg_V), vg_lkp l h = some iv → (h, iv) ∈ l
  | [], h, iv, e => by cases e
  | q :: r, h, iv, e => by
    unfold vg_lkp at e
    split at e
    · rename_i hb
      cases e
      have := Nat.eq_of_beq_eq_true hb
      subst this
      exact List.mem_cons_self
    · exact List.mem_cons_of_mem _ (vg_lkp_in r h iv e)
end
section

/-! THE WALKER IS SOUND -/
theorem vg_b_if_eq {x : Int32} : (x = 0) ↔ vg_c0 .eq x := by
  simp only [vg_c0, Int32.lt_iff_toInt_lt, Int32.le_iff_toInt_le, ← Int32.toInt_inj]
  simp
theorem vg_b_if_ne {x : Int32} : (¬ x = 0) ↔ vg_c0 .ne x := by
  simp only [vg_c0, Int32.lt_iff_toInt_lt, Int32.le_iff_toInt_le, ← Int32.toInt_inj]
  simp
theorem vg_b_if_lt {x : Int32} : (x < 0) ↔ vg_c0 .lt x := by
  simp only [vg_c0, Int32.lt_iff_toInt_lt, Int32.le_iff_toInt_le, ← Int32.toInt_inj]
  simp
theorem vg_b_if_ge {x : Int32} : (0 ≤ x) ↔ vg_c0 .ge x := by
  simp only [vg_c0, Int32.lt_iff_toInt_lt, Int32.le_iff_toInt_le, ← Int32.toInt_inj]
  simp
theorem vg_b_if_gt {x : Int32} : (0 < x) ↔ vg_c0 .gt x := by
  simp only [vg_c0, Int32.lt_iff_toInt_lt, Int32.le_iff_toInt_le, ← Int32.toInt_inj]
  simp
theorem vg_b_if_le {x : Int32} : (x ≤ 0) ↔ vg_c0 .le x := by
  simp only [vg_c0, Int32.lt_iff_toInt_lt, Int32.le_iff_toInt_le, ← Int32.toInt_inj]
  simp
theorem vg_b_icmp_eq {x y : Int32} : (x = y) ↔ vg_c2 .eq x y := by
  simp only [vg_c2, Int32.lt_iff_toInt_lt, Int32.le_iff_toInt_le, ← Int32.toInt_inj]
theorem vg_b_icmp_ne {x y : Int32} : (¬ x = y) ↔ vg_c2 .ne x y := by
  simp only [vg_c2, Int32.lt_iff_toInt_lt, Int32.le_iff_toInt_le, ← Int32.toInt_inj]
theorem vg_b_icmp_lt {x y : Int32} : (x < y) ↔ vg_c2 .lt x y := by
  simp only [vg_c2, Int32.lt_iff_toInt_lt, Int32.le_iff_toInt_le, ← Int32.toInt_inj]
theorem vg_b_icmp_ge {x y : Int32} : (y ≤ x) ↔ vg_c2 .ge x y := by
  simp only [vg_c2, Int32.lt_iff_toInt_lt, Int32.le_iff_toInt_le, ← Int32.toInt_inj]
theorem vg_b_icmp_gt {x y : Int32} : (y < x) ↔ vg_c2 .gt x y := by
  simp only [vg_c2, Int32.lt_iff_toInt_lt, Int32.le_iff_toInt_le, ← Int32.toInt_inj]
theorem vg_b_icmp_le {x y : Int32} : (x ≤ y) ↔ vg_c2 .le x y := by
  simp only [vg_c2, Int32.lt_iff_toInt_lt, Int32.le_iff_toInt_le, ← Int32.toInt_inj]
def vg_GW : List Cond := lw_tbl.filter goodWord
def vg_wd (i : Nat) (w : Cond) : Bool := decide (vg_nth lw_tbl i = some w) && goodWord w
theorem vg_wd_in {i : Nat} {w : Cond} (h : vg_wd i w = true) : w ∈ vg_GW := by
  simp only [vg_wd, Bool.and_eq_true, decide_eq_true_eq, vg_nth_eq] at h
  exact List.mem_filter.mpr ⟨List.mem_of_getElem? h.1, h.2⟩
theorem vg_GW_good : GoodIn vg_GW vg_GW := fun w h => ⟨h, good_of_word (List.mem_filter.mp h).2⟩
/-- links to a nest mate's private methods -/
def vg_nest : List Cond := [.methodLinkNest "NoiseShaper$Taps" 13 yX10_within "NoiseShaper", .methodLinkNest "NoiseShaper$Source" 23 yX10_putTo "NoiseShaper", .methodLinkNest "NoiseShaper$Loop" 149 yX10_putTo "NoiseShaper", .methodLinkNest "NoiseShaper$Elements" 103 yX10_putTo "NoiseShaper"]
def vg_stat : List (Nat × String) := [(100, "SHORT"), (101, "MIDDLE"), (102, "LONG")]
/-- the static rows of taps -/
def vg_ro0 (k : Nat) : Option (Nat × (Nat → Int32)) := match k with
  | 100 => some (3, fun j => ([1, 2, 1] : List Int32).getD j 0)
  | 101 => some (7, fun j => ([-1, 0, 9, 16, 9, 0, -1] : List Int32).getD j 0)
  | 102 => some (11, fun j => ([3, 0, -25, 0, 150, 256, 150, 0, -25, 0, 3] : List Int32).getD j 0)
  | _ => none
def vg_len (op : Instr) (n : Nat) : Nat := match op with
  | .bipush _ => 2
  | .sipush _ => 3
  | .ldc _ => 2
  | .ldc_w _ => 3
  | .ldc2_w _ => 3
  | .iload _ => 2
  | .lload _ => 2
  | .aload _ => 2
  | .istore _ => 2
  | .lstore _ => 2
  | .astore _ => 2
  | .iinc _ _ => 3
  | .goto _ => 3
  | .ifCond _ _ => 3
  | .if_icmp _ _ => 3
  | .getfield _ => 3
  | .putfield _ => 3
  | .getstatic _ => 3
  | .invokevirtual _ => 3
  | .invokestatic _ => 3
  | .tableswitch _ _ _ _ => n
  | .lookupswitch _ _ => n
  | _ => 1
def vg_zt (z : Int) : FieldType := match z with
  | .ofNat 0 => .int
  | .ofNat 1 => .boolean
  | _ => .long
/-- what an instruction links is in the tables -/
def vg_lks (own : String) (cs : List vg_R) (rt : Option FieldType) (cp : Bool) (op : Instr) (a b c : Nat) (z : Int) : Bool := match op with
  | .bipush n => decide ((Int8.ofInt n).toInt32 = Int32.ofInt n)
  | .sipush n => decide ((Int16.ofInt n).toInt32 = Int32.ofInt n)
  | .ldc i => vg_wd a (.constant own i (Int32.ofInt z))
  | .ldc_w i => vg_wd a (.constant own i (Int32.ofInt z))
  | .ldc2_w i => vg_wd a (.constantLong own i (Int64.ofInt z))
  | .getfield i => (match vg_nth vwCl b with
    | some q => Nat.blt c q.2.2 && vg_wd a (.fieldLink own i (q.2.1 c).1 (q.2.1 c).2.1 (q.2.1 c).2.2.1)
    | none => false)
  | .putfield i => (match vg_nth vwCl b with
    | some q => Nat.blt c q.2.2 && vg_wd a (.fieldLink own i (q.2.1 c).1 (q.2.1 c).2.1 (q.2.1 c).2.2.1) && !(q.2.1 c).2.2.2 && decide (parseFieldDescriptor (q.2.1 c).2.2.1 = some (vg_zt z))
    | none => false)
  | .getstatic i => (match vg_nth vg_stat b with
    | some q => Nat.beq q.1 a && vg_wd z.toNat (.fieldLink own i "NoiseShaper$Taps" q.2 "[I")
    | none => false)
  | .invokevirtual i => (match vg_nth cs a, vg_nth vwCl b with
    | some r, some q => vg_wd z.toNat (.methodLink own i r.1.1) && decide (r.1.1.cls = q.1) && decide ((parseMethodDescriptor r.1.1.desc).map (fun d => d.parameters.length) = some c) && !r.1.2.2.2.2.2.2.2.2
    | _, _ => false)
  | .invokestatic i => (match b with
    | 1 => (match vg_nth cs a with
      | some r => vg_wd z.toNat (.methodLink own i r.1.1) && decide ((parseMethodDescriptor r.1.1.desc).map (fun d => d.parameters.length) = some c) && r.1.2.2.2.2.2.2.2.2
      | none => false)
    | 2 => (match vg_nth cs a with
      | some r => decide (vg_nth vg_nest z.toNat = some (.methodLinkNest own i r.1.1 "NoiseShaper")) && decide ((parseMethodDescriptor r.1.1.desc).map (fun d => d.parameters.length) = some c) && r.1.2.2.2.2.2.2.2.2
      | none => false)
    | 3 => cp && vg_wd z.toNat (.methodLink own i arraycopyName)
    | _ => false)
  | .ireturn => decide (rt = some (vg_zt z))
  | .lreturn => decide (rt = some .long)
  | .areturn => decide (rt = some (.array .int))
  | .return_ => decide (rt = none)
  | .lookupswitch _ ps => (ps.toList.zip (ps.toList.drop 1)).all (fun (a, next) => a.1 < next.1)
  | .tableswitch _ lo hi offs => decide (hi - lo + 1 = (offs.toList.length : Int))
  | _ => true
/-- targets lie within -/
def vg_tg (pc : Nat) (op : Instr) : Bool := match op with
  | .goto o => decide (0 ≤ (pc : Int) + o)
  | .ifCond _ o => decide (0 ≤ (pc : Int) + o)
  | .if_icmp _ o => decide (0 ≤ (pc : Int) + o)
  | .tableswitch d _ _ offs => decide (0 ≤ (pc : Int) + d) && offs.toList.all (fun o => decide (0 ≤ (pc : Int) + o))
  | .lookupswitch d ps => decide (0 ≤ (pc : Int) + d) && ps.toList.all (fun o => decide (0 ≤ (pc : Int) + o.2))
  | _ => true
def vg_ok (own : String) (cc : ByteArray) (cs : List vg_R) (rt : Option FieldType) (cp : Bool) (q : vg_I) : Bool := match q with
  | (pc, op, len, a, b, c, z) => decide (decode cc pc = .ok (op, len)) && Nat.beq len (vg_len op len) && vg_lks own cs rt cp op a b c z && vg_tg pc op
theorem vg_ok_spec {own : String} {cc : ByteArray} {cs : List vg_R} {rt : Option FieldType} {cp : Bool} {pc len a b c : Nat} {op : Instr} {z : Int} (h : vg_ok own cc cs rt cp (pc, op, len, a, b, c, z) = true) : decode cc pc = .ok (op, len) ∧ len = vg_len op len ∧ vg_lks own cs rt cp op a b c z = true ∧ vg_tg pc op = true := by
  simp only [vg_ok, Bool.and_eq_true, decide_eq_true_eq] at h
  exact ⟨h.1.1.1, Nat.eq_of_beq_eq_true h.1.1.2, h.1.2, h.2⟩
def vg_chain : List vg_I → Bool
  | [] => true
  | q :: r => (match r with
    | [] => true
    | q2 :: _ => Nat.beq (q.1 + q.2.2.1) q2.1) && vg_chain r
/-! contracts -/
def vg_ty (dA : Nat → ClassId) : List (ClassId × FieldType) := [(dA 0, .int), (dA 1, .long), (dA 2, .object "NoiseShaper$Fold"), (dA 3, .object "NoiseShaper$Latest")]
/-- what stays as it is: the tables, links to nest mates, rows that nobody writes -/
def vg_E (G : vg_G) (sh : List vg_C) (ro : Nat → Option (Nat × (Nat → Int32))) (U : State) : Prop := va_K G.1 vwCl (vg_ty G.2.1) U ∧ (∀ w ∈ vg_nest, va_Nw w U) ∧ (∀ k n f, ro k = some (n, f) → va_T .int (G.2.2 k) n (fun j => .int (f j)) (vg_A G.2.2 sh.length) U U.heap) ∧ ∀ q ∈ vg_stat, va_Z "NoiseShaper$Taps" q.2 "[I" (.ref (G.2.2 q.1)) (vg_A G.2.2 sh.length) U U.heap
theorem vg_nest_warm {s U : State} (hW : s.WarmedH U.vm) (h : ∀ w ∈ vg_nest, va_Nw w s) : ∀ w ∈ vg_nest, va_Nw w U := by
  intro w hw
  have h1 := h w hw
  simp only [vg_nest, List.mem_cons, List.not_mem_nil, or_false] at hw
  rcases hw with rfl | rfl | rfl | rfl <;> exact va_Nw.warmM hW h1
theorem vg_nest_same {s U : State} (hW : s.vm = U.vm) (h : ∀ w ∈ vg_nest, va_Nw w s) : ∀ w ∈ vg_nest, va_Nw w U := by
  intro w hw
  have h1 := h w hw
  simp only [vg_nest, List.mem_cons, List.not_mem_nil, or_false] at hw
  rcases hw with rfl | rfl | rfl | rfl <;> exact va_Nw.same rfl hW h1
theorem vg_E.go {G : vg_G} {sh : List vg_C} {ro ro' : Nat → Option (Nat × (Nat → Int32))} {s U : State} {H : Heap} {locs : List Loc} (h : vg_E G sh ro s) (hro : ∀ k x, ro' k = some x → ro k = some x) (hS : va_S (vg_A G.2.2 sh.length) s.heap H locs) (hU : U.heap = H) (hW : s.WarmedH U.vm) : vg_E G sh ro' U := by
  obtain ⟨h1, h2, h3, h4⟩ := h
  refine ⟨va_K.moved hW.alike h1, vg_nest_warm hW h2, fun k n f hk => ?_, fun q hq => ?_⟩
  · rw [hU]
    exact ((h3 k n f (hro k _ hk)).moved hW.alike).kept (fun a ha hn => hS.2.1 a ha hn)
  · rw [hU]
    exact ((h4 q hq).moved hW.alike).kept (fun a ha hn => hS.2.1 a ha hn)
theorem vg_E.blind {G : vg_G} {sh : List vg_C} {ro : Nat → Option (Nat × (Nat → Int32))} {U : State} (g : JFrame) (mk : MethodId) (a : Array Value) (h : vg_E G sh ro U) : vg_E G sh ro (U.calling g mk a) := by
  obtain ⟨h1, h2, h3, h4⟩ := h
  exact ⟨va_K.moved (u := U) (U := U.calling g mk a) (Vm.Alike.refl U.vm) h1, vg_nest_same (s := U) (U := U.calling g mk a) rfl h2, fun k n f hk => (h3 k n f hk).moved (u := U) (U := U.calling g mk a) (Vm.Alike.refl U.vm), fun q hq => (h4 q hq).moved (u := U) (U := U.calling g mk a) (Vm.Alike.refl U.vm)⟩
def vg_rf (r : vg_R) (v : Option Value) : Prop := match r.1.2.2.2.2.2.2.1 with
  | 0 => v = none
  | 1 => ∃ x, v = some (.int x)
  | 2 => ∃ x, v = some (.long x)
  | _ => ∃ k, k ∈ r.1.2.2.2.2.2.2.2.1 ∧ v = some (.ref k)
abbrev vg_P (G : vg_G) (sh : List vg_C) (σ : vg_S) (H : Heap) : Prop := va_P G.1 vwCl (vg_cw G.2.1 G.2.2 σ 0 sh) H
def vg_Q (G : vg_G) (sh : List vg_C) (r : vg_R) (as : List Value) (σ : vg_S) : Array Value → State → Outcome → State → Prop := fun _ st oc t => (∃ (v : Option Value) (σ' : vg_S), oc = .returned (v.map (vg_cv G.2.2)) ∧ vg_rf r v ∧ r.2.2 as σ v σ' ∧ vg_P G sh σ' t.heap) ∧ va_F (vg_A G.2.2 sh.length) st t
def vg_rok (r : vg_R) : Prop := Cond.code r.1.1 r.1.2.1 r.1.2.2.1 r.1.2.2.2.1 ∈ vg_GW ∧ Cond.initialized r.1.1.cls ∈ vg_GW ∧ (r.1.1.cls ≠ "java/lang/invoke/MethodHandle" ∧ r.1.1.cls ≠ "java/lang/invoke/VarHandle") ∧ plainFor r.1.1 = true ∧ (match r.1.2.2.2.2.2.2.2.2 with
  | true => Cond.static r.1.1 ∈ vg_GW
  | false => Cond.instanceMethod r.1.1 ∈ vg_GW ∧ Cond.selects r.1.1.cls r.1.1 r.1.1 ∈ vg_GW)
/-- a method keeps its word -/
def vg_Ct (l : Launch) (G : vg_G) (sh : List vg_C) (r : vg_R) : Prop := vg_rok r ∧ ∀ (as : List Value) (σ : vg_S), r.2.1 as σ → Met l r.1.1 (.code r.1.1 r.1.2.1 r.1.2.2.1 r.1.2.2.2.1 :: vg_GW) ({ frames := r.1.2.2.2.2.1, cells := 0, slots := 0, locals := r.1.2.2.2.2.2.1 }) (va_Pc (as.map (vg_cv G.2.2)) (fun U => vg_P G sh σ U.heap ∧ vg_E G sh vg_ro0 U)) (vg_Q G sh r as σ) 0 0 (vg_A G.2.2 sh.length)
def vg_isret (op : Instr) (z : Int) (v : Option Value) : Prop := match op, z, v with
  | .ireturn, .ofNat 0, some (.int _) => True
  | .ireturn, .ofNat 1, some (.int x) => x = 0 ∨ x = 1
  | .lreturn, _, some (.long _) => True
  | .areturn, _, some (.ref _) => True
  | .return_, _, none => True
  | _, _, _ => False
section VGS
variable {p : Program} {l : Launch} {e : Env} {R : Room} {s : State} {m : MethodId} {args : Array Value} {below : List Frame} {meth : Method} {c : Code} {cells slots : Nat} {Q : State → Prop}
variable {own : String} {cc : ByteArray} {nL : Nat} {G : vg_G} {sh : List vg_C} {ro : Nat → Option (Nat × (Nat → Int32))} {cs : List vg_R} {cp : Bool} {rt : Option FieldType} {po : Option Value → vg_S → Prop}
/-- where a walk stands -/
def vg_X (p : Program) (l : Launch) (R : Room) (s : State) (m : MethodId) (args : Array Value) (c : Code) (cells slots : Nat) (own : String) (cc : ByteArray) (nL : Nat) (G : vg_G) (sh : List vg_C) (ro : Nat → Option (Nat × (Nat → Int32))) (cs : List vg_R) (cp : Bool) : Prop :=
  p.tables.exec = Jvm.exec ∧ c.code = cc ∧ c.maxLocals = nL ∧ s.vm.findClass own = some m.cls ∧ (∀ w ∈ vg_GW, w.before args s = true) ∧ (∀ i j, i < sh.length → j < sh.length → G.2.2 i = G.2.2 j → i = j) ∧ vg_E G sh ro s ∧ (∀ k x, vg_ro0 k = some x → ro k = some x) ∧
  (∀ r ∈ cs, vg_Ct l G sh r ∧ r.1.2.2.2.2.1 + 1 ≤ R.frames ∧ 8 + (r.1.2.2.1 + 11) + r.1.2.2.2.2.2.1 ≤ R.locals) ∧ (cp = true → 1 ≤ R.frames ∧ 8 + (nativeFrameWords "java/lang/System" "arraycopy" 5 + 11) ≤ R.locals ∧ (Cond.native arraycopyName).before args s = true ∧ (Cond.static arraycopyName).before args s = true ∧ (Cond.initialized "java/lang/System").before args s = true) ∧ cells ≤ R.cells ∧ slots ≤ R.slots
/-- the classes' words -/
theorem vg_cls {b : Nat} {q : vw_C} (h : vg_nth vwCl b = some q) : (∀ w ∈ u_ws q.1 q.2.1 q.2.2, w ∈ vg_GW) ∧ (∀ a, a < q.2.2 → ∀ b, b < q.2.2 → a ≠ b → (q.2.1 a).2.1 ≠ (q.2.1 b).2.1) ∧ ∃ ty : Nat → FieldType, ∀ k, k < q.2.2 → parseFieldDescriptor (q.2.1 k).2.2.1 = some (ty k) := by
  have good : ∀ (C : String) (T : u_T) (N : Nat), (∀ w ∈ u_ws C T N, w ∈ lw_tbl) → ∀ w ∈ u_ws C T N, w ∈ vg_GW := by
    intro C T N hin w hw
    refine List.mem_filter.mpr ⟨hin w hw, ?_⟩
    obtain ⟨k, -, rfl⟩ := List.mem_map.mp hw
    unfold u_lay
    split <;> rfl
  match b, h with
  | 0, h => cases h; exact ⟨good _ _ _ inX0, nmX0, tyX0, tyX0_ok⟩
  | 1, h => cases h; exact ⟨good _ _ _ inX1, nmX1, tyX1, tyX1_ok⟩
  | 2, h => cases h; exact ⟨good _ _ _ inX2, nmX2, tyX2, tyX2_ok⟩
  | 3, h => cases h; exact ⟨good _ _ _ inX3, nmX3, tyX3, tyX3_ok⟩
  | 4, h => cases h; exact ⟨good _ _ _ inX4, nmX4, tyX4, tyX4_ok⟩
  | 5, h => cases h; exact ⟨good _ _ _ inX5, nmX5, tyX5, tyX5_ok⟩
  | 6, h => cases h; exact ⟨good _ _ _ inX6, nmX6, tyX6, tyX6_ok⟩
  | 7, h => cases h; exact ⟨good _ _ _ inX7, nmX7, tyX7, tyX7_ok⟩
  | 8, h => cases h; exact ⟨good _ _ _ inX8, nmX8, tyX8, tyX8_ok⟩
  | 9, h => cases h; exact ⟨good _ _ _ inX9, nmX9, tyX9, tyX9_ok⟩
  | 10, h => cases h; exact ⟨good _ _ _ inX10, nmX10, tyX10, tyX10_ok⟩
  | 11, h => cases h; exact ⟨good _ _ _ inX11, nmX11, tyX11, tyX11_ok⟩
  | n + 12, h => cases h
theorem vg_nr {z : Int} {x : Int32} (h : z = 0 ∨ (z = 1 ∧ (x = 0 ∨ x = 1))) : narrow (vg_zt z) (.int x) = .int x ∧ fits (vg_zt z) (.int x) = true := by
  rcases h with rfl | ⟨rfl, rfl | rfl⟩ <;> exact ⟨rfl, rfl⟩
/-- behind a call -/
theorem vg_cont {H : Heap} {locs : List Loc} {pc : Nat} {ls : Array Slot} {st0 rest as : List Value} {σ : vg_S} {r : vg_R} {aa : Array Value} (hr : va_Run p l e R s m args below meth c H locs cells slots 0 0 (F0 m pc ls st0) rest (vg_Q G sh r as σ aa) (vg_A G.2.2 sh.length)) (hS : va_S (vg_A G.2.2 sh.length) s.heap H locs)
    (kk : ∀ (v : Option Value) (σ' : vg_S) (H1 : Heap) (locs1 : List Loc), vg_rf r v → r.2.2 as σ v σ' → vg_P G sh σ' H1 → va_S (vg_A G.2.2 sh.length) s.heap H1 locs1 → W p l e R s m args below meth c H1 locs1 cells slots Q (F0 m (pc + 3) ls ((v.map (vg_cv G.2.2)).toList ++ rest))) : W p l e R s m args below meth c H locs cells slots Q (F0 m pc ls st0) := by
  intro T hT X
  obtain ⟨v0, st₀, t, T', L, h0, X', hL, e1, e2, ⟨⟨v, σ', hv, hf, hp, hb⟩, hz, hk⟩, st⟩ := hr T hT X
  cases hv
  rw [h0] at hz hk
  obtain ⟨t2, a1, b1⟩ := kk v σ' T'.heap (locs ++ L) hf hp (by rw [e1]; exact hb)
    ⟨Nat.le_trans hS.1 (by rw [e1]; exact hz), fun q h1 h2 => by rw [e1, hk q (Nat.lt_of_lt_of_le h1 hS.1) h2]; exact hS.2.1 q h1 h2, fun q hq => by
      rcases List.mem_append.mp hq with h | h
      · exact hS.2.2 q h
      · exact hL q h⟩ T' rfl X'
  exact ⟨t2, st t2 a1, b1⟩
theorem vg_pre {σ : vg_S} {H : Heap} {locs : List Loc} (hE : vg_E G sh ro s) (hro : ∀ k x, vg_ro0 k = some x → ro k = some x) (hP : vg_P G sh σ H) (hS : va_S (vg_A G.2.2 sh.length) s.heap H locs) (as : List Value) : PreS s H (va_Pc (as.map (vg_cv G.2.2)) (fun U => vg_P G sh σ U.heap ∧ vg_E G sh vg_ro0 U)) (as.map (vg_cv G.2.2)) := by
  refine ⟨fun a U g mk q => ⟨q.1, q.2.1, q.2.2.blind g mk a⟩, fun U hU hW => ⟨rfl, by rw [hU]; exact hP, hE.go hro hS hU hW⟩⟩
theorem vg_sig {y : MethodName} {n : Nat} (h : (parseMethodDescriptor y.desc).map (fun d => d.parameters.length) = some n) : ∀ sig, parseMethodDescriptor y.desc = some sig → n = sig.parameters.length := by
  intro sig hs
  rw [hs] at h
  exact (Option.some.inj h).symm
/-- the answer of a call, by its kind -/
theorem vg_ans {r : vg_R} {as rest : List Value} {σ σ' : vg_S} {v : Option Value} {K : List Value → vg_S → Prop} (h : vg_call r as rest σ K) (hf : vg_rf r v) (hp : r.2.2 as σ v σ') : K (v.toList ++ rest) σ' := by
  obtain ⟨-, -, h⟩ := h
  unfold vg_rf at hf
  split at h
  · rename_i hk
    rw [hk] at hf
    have hf : v = none := hf
    subst hf
    exact h σ' hp
  · rename_i hk
    rw [hk] at hf
    obtain ⟨x, rfl⟩ : ∃ x, v = some (.int x) := hf
    exact h x σ' hp
  · rename_i hk
    rw [hk] at hf
    obtain ⟨x, rfl⟩ : ∃ x, v = some (.long x) := hf
    exact h x σ' hp
  · rename_i h0 h1 h2
    split at hf
    · exact (h0 ‹_›).elim
    · exact (h1 ‹_›).elim
    · exact (h2 ‹_›).elim
    · obtain ⟨k, hk, rfl⟩ := hf
      generalize r.1.2.2.2.2.2.2.2.1 = refs at h hk
      induction refs with
      | nil => cases hk
      | cons a t ih =>
        rcases List.mem_cons.mp hk with rfl | hk
        · exact h.1 σ' hp
        · exact ih h.2 hk
theorem vg_toList (ad : Nat → Nat) (v : Option Value) (rest : List Value) : (v.map (vg_cv ad)).toList ++ rest.map (vg_cv ad) = (v.toList ++ rest).map (vg_cv ad) := by
  cases v <;> rfl
theorem vg_goV {H : Heap} {locs : List Loc} {ls : Array Slot} {pc a b n i : Nat} {z : Int} {L : vg_L} {st rest : List Value} {σ : vg_S} {o ci : Nat} {ks : List Nat} {r : vg_R} {K : List Value → vg_S → Prop} (X : vg_X p l R s m args c cells slots own cc nL G sh ro cs cp) (hdg : decode cc pc = .ok (.invokevirtual i, 3)) (hlk : vg_lks own cs rt cp (.invokevirtual i) a b n z = true)
    (hl : vg_lr G.2.2 ls nL L) (hP : vg_P G sh σ H) (hS : va_S (vg_A G.2.2 sh.length) s.heap H locs) (hr : vg_nth cs a = some r) (hd : vg_drop n st = .ref o :: rest) (ho : vg_nth sh o = some (.inr (ci, ks))) (hci : Nat.beq ci b = true) (hn : Nat.ble n st.length = true) (h : vg_call r (.ref o :: vg_args n st []) rest σ K)
    (kK : ∀ st σ H locs, K st σ → vg_P G sh σ H → va_S (vg_A G.2.2 sh.length) s.heap H locs → W p l e R s m args below meth c H locs cells slots Q (F0 m (pc + 3) ls (st.map (vg_cv G.2.2)))) : W p l e R s m args below meth c H locs cells slots Q (F0 m pc ls (st.map (vg_cv G.2.2))) := by
  obtain ⟨hx, hb, hml, hown, hts, hap, hE, hro, hcs, -, hc1, hc2⟩ := X
  have hci : ci = b := Nat.eq_of_beq_eq_true hci
  subst hci
  have hn : n ≤ st.length := Nat.le_of_ble_eq_true hn
  have hmem : r ∈ cs := by rw [vg_nth_eq] at hr; exact List.mem_of_getElem? hr
  obtain ⟨⟨⟨hcode, hini, hnm, hpl, hin⟩, hM⟩, hfr, hlo⟩ := hcs r hmem
  simp only [vg_lks, hr] at hlk
  split at hlk
  · rename_i r' q hr' hq
    cases hr'
    simp only [Bool.and_eq_true, decide_eq_true_eq, Bool.not_eq_true'] at hlk
    obtain ⟨⟨⟨h1, h2⟩, h3⟩, h4⟩ := hlk
    rw [h4] at hin
    obtain ⟨hin1, hin2⟩ := hin
    have hstk := vg_stack G.2.2 n st hn
    rw [hd] at hstk
    have ho2 : (vg_cw G.2.1 G.2.2 σ 0 sh)[o]? = some (G.2.2 o, .inr (ci, vg_fl G.2.2 (σ.1 o) (σ.2 o) 0 ks)) := by
      rw [vg_cw_at, ← vg_nth_eq, ho]
      simp [vg_ce]
    have hrec := va_recv (q := q) (q0 := o) hE.1 hP (by rw [← vg_nth_eq]; exact hq) ho2
    rw [← h2] at hrec
    have hws := pay_in hts (fun w hw => (show w ∈ vg_GW ∧ _ from (List.mem_cons.mp hw).elim (fun e => by rw [e]; exact vg_GW_good _ hcode) (fun hw => vg_GW_good w hw)) : GoodIn vg_GW (Cond.code r.1.1 r.1.2.1 r.1.2.2.1 r.1.2.2.2.1 :: vg_GW))
    have hpre := vg_pre (σ := σ) hE hro hP hS (.ref o :: vg_args n st [])
    refine vg_cont (va_runV (C := r.1.1.cls) (b := G.2.2 o) (As := (vg_args n st []).map (vg_cv G.2.2)) (rest := rest.map (vg_cv G.2.2)) (bytes := r.1.2.1) (maxL := r.1.2.2.1) (ret := r.1.2.2.2.1) (n := n) ⟨hx, hb, hml, hown, hts⟩ (hM _ σ h.2.1) ⟨⟨rfl, rfl, hfr, hlo, hws, List.mem_cons_self, hts _ hcode, hts _ hini, hnm, vg_sig h3, hts _ (vg_wd_in h1)⟩, hts _ hin1, hts _ hin2⟩ ⟨hpre.1, hrec, hpre.2⟩ rfl (by rw [List.length_map]; exact vg_args_len n st hn) hl.1.1 hstk (lv_room (by rw [vg_cat_eq]; exact h.1)) hdg ⟨hc1, hc2⟩) hS (fun v σ' H1 locs1 hf hp hP1 hS1 => ?_)
    rw [vg_toList]
    exact kK _ _ _ _ (vg_ans h hf hp) hP1 hS1
  · cases hlk
theorem vg_goS {H : Heap} {locs : List Loc} {ls : Array Slot} {pc a n i : Nat} {z : Int} {L : vg_L} {st : List Value} {σ : vg_S} {r : vg_R} {K : List Value → vg_S → Prop} (X : vg_X p l R s m args c cells slots own cc nL G sh ro cs cp) (hdg : decode cc pc = .ok (.invokestatic i, 3)) {b : Nat} (hb3 : ¬ b = 3) (hlk : vg_lks own cs rt cp (.invokestatic i) a b n z = true)
    (hl : vg_lr G.2.2 ls nL L) (hP : vg_P G sh σ H) (hS : va_S (vg_A G.2.2 sh.length) s.heap H locs) (hr : vg_nth cs a = some r) (hn : Nat.ble n st.length = true) (h : vg_call r (vg_args n st []) (vg_drop n st) σ K)
    (kK : ∀ st σ H locs, K st σ → vg_P G sh σ H → va_S (vg_A G.2.2 sh.length) s.heap H locs → W p l e R s m args below meth c H locs cells slots Q (F0 m (pc + 3) ls (st.map (vg_cv G.2.2)))) : W p l e R s m args below meth c H locs cells slots Q (F0 m pc ls (st.map (vg_cv G.2.2))) := by
  obtain ⟨hx, hb, hml, hown, hts, hap, hE, hro, hcs, -, hc1, hc2⟩ := X
  have hn : n ≤ st.length := Nat.le_of_ble_eq_true hn
  have hmem : r ∈ cs := by rw [vg_nth_eq] at hr; exact List.mem_of_getElem? hr
  obtain ⟨⟨⟨hcode, hini, hnm, hpl, hin⟩, hM⟩, hfr, hlo⟩ := hcs r hmem
  have hstk := vg_stack G.2.2 n st hn
  have hws := pay_in hts (fun w hw => (show w ∈ vg_GW ∧ _ from (List.mem_cons.mp hw).elim (fun e => by rw [e]; exact vg_GW_good _ hcode) (fun hw => vg_GW_good w hw)) : GoodIn vg_GW (Cond.code r.1.1 r.1.2.1 r.1.2.2.1 r.1.2.2.2.1 :: vg_GW))
  have hpre := vg_pre (σ := σ) hE hro hP hS (vg_args n st [])
  simp only [vg_lks, hr] at hlk
  split at hlk
  · simp only [Bool.and_eq_true, decide_eq_true_eq] at hlk
    obtain ⟨⟨h1, h3⟩, h4⟩ := hlk
    rw [h4] at hin
    refine vg_cont (va_runS (As := (vg_args n st []).map (vg_cv G.2.2)) (rest := (vg_drop n st).map (vg_cv G.2.2)) (bytes := r.1.2.1) (maxL := r.1.2.2.1) (ret := r.1.2.2.2.1) (n := n) ⟨hx, hb, hml, hown, hts⟩ (hM _ σ h.2.1) ⟨⟨rfl, rfl, hfr, hlo, hws, List.mem_cons_self, hts _ hcode, hts _ hini, hnm, vg_sig h3, hts _ (vg_wd_in h1)⟩, hts _ hin⟩ hpre rfl (by rw [List.length_map]; exact vg_args_len n st hn) hl.1.1 hstk (lv_room (by rw [vg_cat_eq]; exact h.1)) hdg ⟨hc1, hc2⟩) hS (fun v σ' H1 locs1 hf hp hP1 hS1 => ?_)
    rw [vg_toList]
    exact kK _ _ _ _ (vg_ans h hf hp) hP1 hS1
  · simp only [Bool.and_eq_true, decide_eq_true_eq] at hlk
    obtain ⟨⟨h1, h3⟩, h4⟩ := hlk
    rw [h4] at hin
    have hnw := va_Nw.use (A := args) rfl (hE.2.1 _ (by rw [vg_nth_eq] at h1; exact List.mem_of_getElem? h1))
    refine vg_cont (va_runSN (host := "NoiseShaper") (As := (vg_args n st []).map (vg_cv G.2.2)) (rest := (vg_drop n st).map (vg_cv G.2.2)) (bytes := r.1.2.1) (maxL := r.1.2.2.1) (ret := r.1.2.2.2.1) (n := n) ⟨hx, hb, hml, hown, hts⟩ (hM _ σ h.2.1) ⟨⟨⟨rfl, rfl, hfr, hlo, hws, List.mem_cons_self⟩, hts _ hcode, hts _ hini, hnm, vg_sig h3, hnw⟩, hts _ hin, trivial⟩ hpre rfl (by rw [List.length_map]; exact vg_args_len n st hn) hl.1.1 hstk (lv_room (by rw [vg_cat_eq]; exact h.1)) hdg ⟨hc1, hc2⟩) hS (fun v σ' H1 locs1 hf hp hP1 hS1 => ?_)
    rw [vg_toList]
    exact kK _ _ _ _ (vg_ans h hf hp) hP1 hS1
  · exact (hb3 rfl).elim
  · cases hlk
theorem vg_nn {x : Int32} (h : 0 ≤ x.toInt) : ¬ x < 0 := fun q => by
  have := Int32.lt_iff_toInt_lt.mp q
  simp at this
  omega
theorem vg_clamp (x : Int32) : x.toNatClampNeg = x.toInt.toNat := rfl
theorem vg_tb_go {f : Nat → Prop} {pc : Nat} {x : Int32} : ∀ (offs : List Int) (lo : Int), vg_tb f pc x lo offs → ∀ (k : Nat) (o : Int), x.toInt = lo + k → offs[k]? = some o → f ((pc : Int) + o).toNat
  | [], lo, h, k, o, hx, ho => by simp at ho
  | o0 :: r, lo, h, 0, o, hx, ho => by
    simp at ho
    subst ho
    exact h.1 (by simpa using hx)
  | o0 :: r, lo, h, k + 1, o, hx, ho => vg_tb_go r (lo + 1) h.2 k o (by rw [hx]; push_cast; omega) (by simpa using ho)
theorem vg_lk_go {f : Nat → Prop} {pc : Nat} {x : Int32} {d : Int} : ∀ (ps : List (Int × Int)), vg_lk f pc x d ps → f ((pc : Int) + Op.lookupswitch.offset ps d x.toInt).toNat
  | [], h => h
  | (a, o) :: r, h => by
    rw [Op.lookupswitch.offset_cons]
    by_cases hx : x.toInt = a
    · rw [if_pos hx.symm]
      exact h.1 hx
    · rw [if_neg (fun q => hx q.symm)]
      exact vg_lk_go r (h.2 hx)
theorem vg_lk_nn {pc : Nat} {d x : Int} : ∀ (ps : List (Int × Int)), 0 ≤ (pc : Int) + d → ps.all (fun o => decide (0 ≤ (pc : Int) + o.2)) = true → 0 ≤ (pc : Int) + Op.lookupswitch.offset ps d x
  | [], h, _ => h
  | (a, o) :: r, h, h2 => by
    simp only [List.all_cons, Bool.and_eq_true, decide_eq_true_eq] at h2
    rw [Op.lookupswitch.offset_cons]
    split
    · exact h2.1
    · exact vg_lk_nn r h h2.2
theorem vg_al_go {f : Nat → Prop} {i : Int32} : ∀ (rs : List Nat) (j : Nat), vg_al f i j rs → ∀ (t k : Nat), i.toInt = ((j + t : Nat) : Int) → rs[t]? = some k → f k
  | [], j, h, t, k, hi, hk => by simp at hk
  | a :: r, j, h, 0, k, hi, hk => by
    simp at hk
    subst hk
    exact h.1 (by simpa using hi)
  | a :: r, j, h, t + 1, k, hi, hk => vg_al_go r (j + 1) h.2 t k (by rw [hi]; congr 1; omega) (by simpa using hk)
set_option maxHeartbeats 4000000 in
/-- one instruction -/
theorem vg_ex_sound {H : Heap} {locs : List Loc} {ls : Array Slot} {pc len a b c0 : Nat} {op : Instr} {z : Int} {L : vg_L} {st : List Value} {σ : vg_S} {K : vg_L → List Value → vg_S → Prop} {J : vg_L → List Value → vg_S → Nat → Prop} (X : vg_X p l R s m args c cells slots own cc nL G sh ro cs cp) (hsh : ∀ r t n rs, vg_nth sh r = some (.inl (t + 2, n, rs)) → t = 0 ∨ t = 1) (hok : vg_ok own cc cs rt cp (pc, op, len, a, b, c0, z) = true)
    (hl : vg_lr G.2.2 ls nL L) (hP : vg_P G sh σ H) (hS : va_S (vg_A G.2.2 sh.length) s.heap H locs) (h : vg_ex sh ro cs po K J (pc, op, len, a, b, c0, z) L st σ)
    (kK : ∀ L st σ H locs ls, K L st σ → vg_lr G.2.2 ls nL L → vg_P G sh σ H → va_S (vg_A G.2.2 sh.length) s.heap H locs → W p l e R s m args below meth c H locs cells slots Q (F0 m (pc + len) ls (st.map (vg_cv G.2.2))))
    (kJ : ∀ L st σ t H locs ls, J L st σ t → vg_lr G.2.2 ls nL L → vg_P G sh σ H → va_S (vg_A G.2.2 sh.length) s.heap H locs → W p l e R s m args below meth c H locs cells slots Q (F0 m t ls (st.map (vg_cv G.2.2))))
    (kR : ∀ v σ H locs ls, vg_ok own cc cs rt cp (pc, op, len, a, b, c0, z) = true → vg_isret op z v → po v σ → vg_lr G.2.2 ls nL L → vg_P G sh σ H → va_S (vg_A G.2.2 sh.length) s.heap H locs → W p l e R s m args below meth c H locs cells slots Q (F0 m pc ls ((v.map (vg_cv G.2.2)).toList))) : W p l e R s m args below meth c H locs cells slots Q (F0 m pc ls (st.map (vg_cv G.2.2))) := by
  obtain ⟨hx, hb, hml, hown, hts, hap, hE, hro, hcs, hcp, hc1, hc2⟩ := id X
  obtain ⟨hdg, hln, hlk, htg⟩ := vg_ok_spec hok
  cases op with
  | iconst i =>
    have hln : len = 1 := hln
    subst hln
    exact lv_iconst hx hb hdg rfl (kK _ _ _ _ _ _ h hl hP hS)
  | bipush i =>
    have hln : len = 2 := hln
    subst hln
    exact lv_bipush hx hb hdg (of_decide_eq_true hlk) (kK _ _ _ _ _ _ h hl hP hS)
  | sipush i =>
    have hln : len = 3 := hln
    subst hln
    exact lv_sipush hx hb hdg (of_decide_eq_true hlk) (kK _ _ _ _ _ _ h hl hP hS)
  | lconst i =>
    have hln : len = 1 := hln
    subst hln
    exact lv_lconst hx hb hdg rfl (kK _ _ _ _ _ _ h hl hP hS)
  | ldc i =>
    have hln : len = 2 := hln
    subst hln
    exact lv_ldc hx hb hown (hts _ (vg_wd_in hlk)) hdg (kK _ _ _ _ _ _ h hl hP hS)
  | ldc_w i =>
    have hln : len = 3 := hln
    subst hln
    exact lv_ldcw hx hb hown (hts _ (vg_wd_in hlk)) hdg (kK _ _ _ _ _ _ h hl hP hS)
  | ldc2_w i =>
    have hln : len = 3 := hln
    subst hln
    exact lv_ldc2 hx hb hown (hts _ (vg_wd_in hlk)) hdg (kK _ _ _ _ _ _ h hl hP hS)
  | iload_n i =>
    have hln : len = 1 := hln
    subst hln
    simp only [vg_ex] at h
    split at h
    · rename_i x hi
      exact lv_iload_n hx hb hdg rfl (hl.at hi) (kK _ _ _ _ _ _ h hl hP hS)
    · exact h.elim
  | iload i =>
    have hln : len = 2 := hln
    subst hln
    simp only [vg_ex] at h
    split at h
    · rename_i x hi
      exact lv_iload hx hb hdg (hl.at hi) (kK _ _ _ _ _ _ h hl hP hS)
    · exact h.elim
  | lload_n i =>
    have hln : len = 1 := hln
    subst hln
    simp only [vg_ex] at h
    split at h
    · rename_i x hi
      exact lv_lload_n hx hb hdg rfl (hl.at hi) (kK _ _ _ _ _ _ h hl hP hS)
    · exact h.elim
  | lload i =>
    have hln : len = 2 := hln
    subst hln
    simp only [vg_ex] at h
    split at h
    · rename_i x hi
      exact lv_lload hx hb hdg (hl.at hi) (kK _ _ _ _ _ _ h hl hP hS)
    · exact h.elim
  | aload_n i =>
    have hln : len = 1 := hln
    subst hln
    simp only [vg_ex] at h
    split at h
    · rename_i x hi
      exact lv_aload_n hx hb hdg rfl (hl.at hi) (kK _ _ _ _ _ _ h hl hP hS)
    · exact h.elim
  | aload i =>
    have hln : len = 2 := hln
    subst hln
    simp only [vg_ex] at h
    split at h
    · rename_i x hi
      exact lv_aload hx hb hdg (hl.at hi) (kK _ _ _ _ _ _ h hl hP hS)
    · exact h.elim
  | istore_n i =>
    have hln : len = 1 := hln
    subst hln
    simp only [vg_ex] at h
    split at h
    · rename_i hi
      exact lv_istore_n (nL := nL) hx hb hdg rfl hl.1 (by rw [← hl.2]; exact vg_nth_lt hi) rfl (fun ls' hl' => kK _ _ _ _ _ _ h (hl.s1 (v := (.int _)) hl') hP hS)
    · exact h.elim
  | istore i =>
    have hln : len = 2 := hln
    subst hln
    simp only [vg_ex] at h
    split at h
    · rename_i hi
      exact lv_istore (nL := nL) hx hb hdg hl.1 (by rw [← hl.2]; exact vg_nth_lt hi) rfl (fun ls' hl' => kK _ _ _ _ _ _ h (hl.s1 (v := (.int _)) hl') hP hS)
    · exact h.elim
  | astore_n i =>
    have hln : len = 1 := hln
    subst hln
    simp only [vg_ex] at h
    split at h
    · rename_i hi
      exact lv_astore_n (nL := nL) hx hb hdg rfl hl.1 (by rw [← hl.2]; exact vg_nth_lt hi) rfl (fun ls' hl' => kK _ _ _ _ _ _ h (hl.s1 (v := (.ref _)) hl') hP hS)
    · exact h.elim
  | astore i =>
    have hln : len = 2 := hln
    subst hln
    simp only [vg_ex] at h
    split at h
    · rename_i hi
      exact lv_astore (nL := nL) hx hb hdg hl.1 (by rw [← hl.2]; exact vg_nth_lt hi) rfl (fun ls' hl' => kK _ _ _ _ _ _ h (hl.s1 (v := (.ref _)) hl') hP hS)
    · exact h.elim
  | lstore_n i =>
    have hln : len = 1 := hln
    subst hln
    simp only [vg_ex] at h
    split at h
    · rename_i hi
      exact lv_lstore_n (nL := nL) hx hb hdg rfl hl.1 (by rw [← hl.2]; exact vg_nth_lt hi) rfl (fun ls' hl' => kK _ _ _ _ _ _ h (hl.s2 (v := .long _) (vg_nth_lt hi) hl') hP hS)
    · exact h.elim
  | lstore i =>
    have hln : len = 2 := hln
    subst hln
    simp only [vg_ex] at h
    split at h
    · rename_i hi
      exact lv_lstore (nL := nL) hx hb hdg hl.1 (by rw [← hl.2]; exact vg_nth_lt hi) rfl (fun ls' hl' => kK _ _ _ _ _ _ h (hl.s2 (v := .long _) (vg_nth_lt hi) hl') hP hS)
    · exact h.elim
  | iinc i n =>
    have hln : len = 3 := hln
    subst hln
    simp only [vg_ex] at h
    split at h
    · rename_i x hi
      obtain ⟨k, hk⟩ := List.getElem?_of_mem (vg_la_in G.2.2 L 0 i (.int x) hi)
      rw [Nat.zero_add] at hk
      exact lv_iinc (nL := nL) (k := k) (x := x) hx hb hdg hl.1 hk rfl (by rw [← hl.2]; exact vg_nth_lt hi) rfl (fun ls' hl' => kK _ _ _ _ _ _ (h _ rfl) (hl.s1 (v := .int _) hl') hP hS)
    · exact h.elim
  | iadd =>
    have hln : len = 1 := hln
    subst hln
    simp only [vg_ex] at h
    split at h
    · exact lv_iadd hx hb hdg (kK _ _ _ _ _ _ (h _ rfl) hl hP hS)
    · exact h.elim
  | isub =>
    have hln : len = 1 := hln
    subst hln
    simp only [vg_ex] at h
    split at h
    · exact lv_isub hx hb hdg (kK _ _ _ _ _ _ (h _ rfl) hl hP hS)
    · exact h.elim
  | imul =>
    have hln : len = 1 := hln
    subst hln
    simp only [vg_ex] at h
    split at h
    · exact lv_imul hx hb hdg (kK _ _ _ _ _ _ (h _ rfl) hl hP hS)
    · exact h.elim
  | iand =>
    have hln : len = 1 := hln
    subst hln
    simp only [vg_ex] at h
    split at h
    · exact lv_iand hx hb hdg (kK _ _ _ _ _ _ (h _ rfl) hl hP hS)
    · exact h.elim
  | ior =>
    have hln : len = 1 := hln
    subst hln
    simp only [vg_ex] at h
    split at h
    · exact lv_ior hx hb hdg (kK _ _ _ _ _ _ (h _ rfl) hl hP hS)
    · exact h.elim
  | ixor =>
    have hln : len = 1 := hln
    subst hln
    simp only [vg_ex] at h
    split at h
    · exact lv_ixor hx hb hdg (kK _ _ _ _ _ _ (h _ rfl) hl hP hS)
    · exact h.elim
  | ishl =>
    have hln : len = 1 := hln
    subst hln
    simp only [vg_ex] at h
    split at h
    · exact lv_ishl hx hb hdg (kK _ _ _ _ _ _ (h _ rfl) hl hP hS)
    · exact h.elim
  | ishr =>
    have hln : len = 1 := hln
    subst hln
    simp only [vg_ex] at h
    split at h
    · exact lv_ishr hx hb hdg (kK _ _ _ _ _ _ (h _ rfl) hl hP hS)
    · exact h.elim
  | ineg =>
    have hln : len = 1 := hln
    subst hln
    simp only [vg_ex] at h
    split at h
    · exact lv_ineg hx hb hdg (kK _ _ _ _ _ _ (h _ rfl) hl hP hS)
    · exact h.elim
  | ladd =>
    have hln : len = 1 := hln
    subst hln
    simp only [vg_ex] at h
    split at h
    · exact lv_ladd hx hb hdg (kK _ _ _ _ _ _ (h _ rfl) hl hP hS)
    · exact h.elim
  | lsub =>
    have hln : len = 1 := hln
    subst hln
    simp only [vg_ex] at h
    split at h
    · exact lv_lsub hx hb hdg (kK _ _ _ _ _ _ (h _ rfl) hl hP hS)
    · exact h.elim
  | lmul =>
    have hln : len = 1 := hln
    subst hln
    simp only [vg_ex] at h
    split at h
    · exact lv_lmul hx hb hdg (kK _ _ _ _ _ _ (h _ rfl) hl hP hS)
    · exact h.elim
  | land =>
    have hln : len = 1 := hln
    subst hln
    simp only [vg_ex] at h
    split at h
    · exact lv_land hx hb hdg (kK _ _ _ _ _ _ (h _ rfl) hl hP hS)
    · exact h.elim
  | lneg =>
    have hln : len = 1 := hln
    subst hln
    simp only [vg_ex] at h
    split at h
    · exact lv_lneg hx hb hdg (kK _ _ _ _ _ _ (h _ rfl) hl hP hS)
    · exact h.elim
  | lcmp =>
    have hln : len = 1 := hln
    subst hln
    simp only [vg_ex] at h
    split at h
    · exact W.lcmp hx hb hdg (kK _ _ _ _ _ _ (h _ rfl) hl hP hS)
    · exact h.elim
  | iushr =>
    have hln : len = 1 := hln
    subst hln
    simp only [vg_ex] at h
    split at h
    · exact lv_iushr hx hb hdg rfl (kK _ _ _ _ _ _ (h _ rfl) hl hP hS)
    · exact h.elim
  | lshl =>
    have hln : len = 1 := hln
    subst hln
    simp only [vg_ex] at h
    split at h
    · exact lv_lshl hx hb hdg rfl (kK _ _ _ _ _ _ (h _ rfl) hl hP hS)
    · exact h.elim
  | lshr =>
    have hln : len = 1 := hln
    subst hln
    simp only [vg_ex] at h
    split at h
    · exact lv_lshr hx hb hdg rfl (kK _ _ _ _ _ _ (h _ rfl) hl hP hS)
    · exact h.elim
  | i2l =>
    have hln : len = 1 := hln
    subst hln
    simp only [vg_ex] at h
    split at h
    · exact lv_i2l hx hb hdg rfl (kK _ _ _ _ _ _ (h _ rfl) hl hP hS)
    · exact h.elim
  | l2i =>
    have hln : len = 1 := hln
    subst hln
    simp only [vg_ex] at h
    split at h
    · exact lv_l2i hx hb hdg rfl (kK _ _ _ _ _ _ (h _ rfl) hl hP hS)
    · exact h.elim
  | idiv =>
    have hln : len = 1 := hln
    subst hln
    simp only [vg_ex] at h
    split at h
    · exact lv_idiv hx hb hdg (fun q => h.1 (by rw [q]; rfl)) (kK _ _ _ _ _ _ (h.2 _ rfl) hl hP hS)
    · exact h.elim
  | irem =>
    have hln : len = 1 := hln
    subst hln
    simp only [vg_ex] at h
    split at h
    · exact lv_irem hx hb hdg (fun q => h.1 (by rw [q]; rfl)) (kK _ _ _ _ _ _ (h.2 _ rfl) hl hP hS)
    · exact h.elim
  | ldiv =>
    have hln : len = 1 := hln
    subst hln
    simp only [vg_ex] at h
    split at h
    · exact lv_ldiv hx hb hdg (fun q => h.1 (by rw [q]; rfl)) (kK _ _ _ _ _ _ (h.2 _ rfl) hl hP hS)
    · exact h.elim
  | lrem =>
    have hln : len = 1 := hln
    subst hln
    simp only [vg_ex] at h
    split at h
    · exact lv_lrem hx hb hdg (fun q => h.1 (by rw [q]; rfl)) (kK _ _ _ _ _ _ (h.2 _ rfl) hl hP hS)
    · exact h.elim
  | dup =>
    have hln : len = 1 := hln
    subst hln
    simp only [vg_ex] at h
    split at h
    · exact lv_dup hx hb hdg rfl (kK _ _ _ _ _ _ h hl hP hS)
    · exact lv_dup hx hb hdg rfl (kK _ _ _ _ _ _ h hl hP hS)
    · exact h.elim
  | dup2 =>
    have hln : len = 1 := hln
    subst hln
    simp only [vg_ex] at h
    split at h
    · exact lv_dup2_11 hx hb hdg rfl rfl (kK _ _ _ _ _ _ h hl hP hS)
    · exact lv_dup2_2 hx hb hdg rfl (kK _ _ _ _ _ _ h hl hP hS)
    · exact h.elim
  | pop =>
    have hln : len = 1 := hln
    subst hln
    simp only [vg_ex] at h
    split at h
    · exact lv_pop hx hb hdg rfl (kK _ _ _ _ _ _ h hl hP hS)
    · exact h.elim
  | pop2 =>
    have hln : len = 1 := hln
    subst hln
    simp only [vg_ex] at h
    split at h
    · exact lv_pop2_2 hx hb hdg rfl (kK _ _ _ _ _ _ h hl hP hS)
    · exact h.elim
  | goto off =>
    have hln : len = 3 := hln
    subst hln
    have htg : 0 ≤ (pc : Int) + off := of_decide_eq_true htg
    exact lv_goto hx hb hdg (Int.toNat_of_nonneg htg).symm (kJ _ _ _ _ _ _ _ h hl hP hS)
  | ifCond cd off =>
    have hln : len = 3 := hln
    subst hln
    have htq : 0 ≤ (pc : Int) + off := of_decide_eq_true htg
    clear htg
    simp only [vg_ex] at h
    split at h
    · cases cd with
      | eq => exact lv_if_eq (tgt := ((pc : Int) + off).toNat) hx hb hdg (Int.toNat_of_nonneg htq).symm (fun q => kJ _ _ _ _ _ _ _ (h.1 (vg_b_if_eq.mp q)) hl hP hS) (fun q => kK _ _ _ _ _ _ (h.2 (fun z => q (vg_b_if_eq.mpr z))) hl hP hS)
      | ne => exact lv_if_ne (tgt := ((pc : Int) + off).toNat) hx hb hdg (Int.toNat_of_nonneg htq).symm (fun q => kJ _ _ _ _ _ _ _ (h.1 (vg_b_if_ne.mp q)) hl hP hS) (fun q => kK _ _ _ _ _ _ (h.2 (fun z => vg_b_if_ne.mpr z q)) hl hP hS)
      | lt => exact lv_if_lt (tgt := ((pc : Int) + off).toNat) hx hb hdg (Int.toNat_of_nonneg htq).symm (fun q => kJ _ _ _ _ _ _ _ (h.1 (vg_b_if_lt.mp q)) hl hP hS) (fun q => kK _ _ _ _ _ _ (h.2 (fun z => q (vg_b_if_lt.mpr z))) hl hP hS)
      | ge => exact lv_if_ge (tgt := ((pc : Int) + off).toNat) hx hb hdg (Int.toNat_of_nonneg htq).symm (fun q => kJ _ _ _ _ _ _ _ (h.1 (vg_b_if_ge.mp q)) hl hP hS) (fun q => kK _ _ _ _ _ _ (h.2 (fun z => q (vg_b_if_ge.mpr z))) hl hP hS)
      | gt => exact lv_if_gt (tgt := ((pc : Int) + off).toNat) hx hb hdg (Int.toNat_of_nonneg htq).symm (fun q => kJ _ _ _ _ _ _ _ (h.1 (vg_b_if_gt.mp q)) hl hP hS) (fun q => kK _ _ _ _ _ _ (h.2 (fun z => q (vg_b_if_gt.mpr z))) hl hP hS)
      | le => exact lv_if_le (tgt := ((pc : Int) + off).toNat) hx hb hdg (Int.toNat_of_nonneg htq).symm (fun q => kJ _ _ _ _ _ _ _ (h.1 (vg_b_if_le.mp q)) hl hP hS) (fun q => kK _ _ _ _ _ _ (h.2 (fun z => q (vg_b_if_le.mpr z))) hl hP hS)
    · exact h.elim
  | if_icmp cd off =>
    have hln : len = 3 := hln
    subst hln
    have htq : 0 ≤ (pc : Int) + off := of_decide_eq_true htg
    clear htg
    simp only [vg_ex] at h
    split at h
    · cases cd with
      | eq => exact lv_icmp_eq (tgt := ((pc : Int) + off).toNat) hx hb hdg (Int.toNat_of_nonneg htq).symm (fun q => kJ _ _ _ _ _ _ _ (h.1 (vg_b_icmp_eq.mp q)) hl hP hS) (fun q => kK _ _ _ _ _ _ (h.2 (fun z => q (vg_b_icmp_eq.mpr z))) hl hP hS)
      | ne => exact lv_icmp_ne (tgt := ((pc : Int) + off).toNat) hx hb hdg (Int.toNat_of_nonneg htq).symm (fun q => kJ _ _ _ _ _ _ _ (h.1 (vg_b_icmp_ne.mp q)) hl hP hS) (fun q => kK _ _ _ _ _ _ (h.2 (fun z => vg_b_icmp_ne.mpr z q)) hl hP hS)
      | lt => exact lv_icmp_lt (tgt := ((pc : Int) + off).toNat) hx hb hdg (Int.toNat_of_nonneg htq).symm (fun q => kJ _ _ _ _ _ _ _ (h.1 (vg_b_icmp_lt.mp q)) hl hP hS) (fun q => kK _ _ _ _ _ _ (h.2 (fun z => q (vg_b_icmp_lt.mpr z))) hl hP hS)
      | ge => exact lv_icmp_ge (tgt := ((pc : Int) + off).toNat) hx hb hdg (Int.toNat_of_nonneg htq).symm (fun q => kJ _ _ _ _ _ _ _ (h.1 (vg_b_icmp_ge.mp q)) hl hP hS) (fun q => kK _ _ _ _ _ _ (h.2 (fun z => q (vg_b_icmp_ge.mpr z))) hl hP hS)
      | gt => exact lv_icmp_gt (tgt := ((pc : Int) + off).toNat) hx hb hdg (Int.toNat_of_nonneg htq).symm (fun q => kJ _ _ _ _ _ _ _ (h.1 (vg_b_icmp_gt.mp q)) hl hP hS) (fun q => kK _ _ _ _ _ _ (h.2 (fun z => q (vg_b_icmp_gt.mpr z))) hl hP hS)
      | le => exact lv_icmp_le (tgt := ((pc : Int) + off).toNat) hx hb hdg (Int.toNat_of_nonneg htq).symm (fun q => kJ _ _ _ _ _ _ _ (h.1 (vg_b_icmp_le.mp q)) hl hP hS) (fun q => kK _ _ _ _ _ _ (h.2 (fun z => q (vg_b_icmp_le.mpr z))) hl hP hS)
    · exact h.elim
  | tableswitch d lo hi offs =>
    simp only [vg_tg, Bool.and_eq_true, decide_eq_true_eq, List.all_eq_true] at htg
    simp only [vg_ex] at h
    split at h
    · rename_i x st
      by_cases hx1 : x.toInt < lo ∨ hi < x.toInt
      · exact lv_tableOut hx hb hdg hx1 (Int.toNat_of_nonneg htg.1).symm (kJ _ _ _ _ _ _ _ (h.1 hx1) hl hP hS)
      · have h1 : ¬ x.toInt < lo := fun q => hx1 (Or.inl q)
        have h2 : ¬ hi < x.toInt := fun q => hx1 (Or.inr q)
        have hlen : hi - lo + 1 = (offs.toList.length : Int) := of_decide_eq_true hlk
        have hk : (x.toInt - lo).toNat < offs.toList.length := by omega
        have ho : offs[(x.toInt - lo).toNat]? = some (offs.toList[(x.toInt - lo).toNat]'hk) := by
          rw [← Array.getElem?_toList]
          exact List.getElem?_eq_getElem hk
        have hg := vg_tb_go offs.toList lo h.2 (x.toInt - lo).toNat _ (by omega) (List.getElem?_eq_getElem hk)
        exact lv_tableIn hx hb hdg h1 h2 ho (Int.toNat_of_nonneg (htg.2 _ (List.getElem_mem hk))).symm (kJ _ _ _ _ _ _ _ hg hl hP hS)
    · exact h.elim
  | lookupswitch d ps =>
    simp only [vg_tg, Bool.and_eq_true, decide_eq_true_eq] at htg
    simp only [vg_ex] at h
    split at h
    · rename_i x st
      have hg := vg_lk_go ps.toList h
      exact lv_lookup hx hb hdg hlk rfl (Int.toNat_of_nonneg (vg_lk_nn ps.toList htg.1 htg.2)).symm (kJ _ _ _ _ _ _ _ hg hl hP hS)
    · exact h.elim
  | getfield i =>
    have hln : len = 3 := hln
    subst hln
    simp only [vg_ex] at h
    split at h
    · rename_i r st
      split at h
      · rename_i ci ks hr
        simp only [vg_lks] at hlk
        split at hlk
        · rename_i q hq
          simp only [Bool.and_eq_true] at hlk
          have hcls := vg_cls hq
          have hc0 : c0 < q.2.2 := by simpa [Nat.blt_eq] using hlk.1
          have he : (vg_cw G.2.1 G.2.2 σ 0 sh)[r]? = some (G.2.2 r, .inr (ci, vg_fl G.2.2 (σ.1 r) (σ.2 r) 0 ks)) := by
            rw [vg_cw_at, ← vg_nth_eq, hr]
            simp [vg_ce]
          have hq2 : vwCl[b]? = some q := by rw [← vg_nth_eq]; exact hq
          have go : ∀ v, vg_fl G.2.2 (σ.1 r) (σ.2 r) 0 ks = vg_fl G.2.2 (σ.1 r) (σ.2 r) 0 ks → ci = b → (vg_fl G.2.2 (σ.1 r) (σ.2 r) 0 ks)[c0]? = some (vg_cv G.2.2 v) → K L (v :: st) σ → W p l e R s m args below meth c H locs cells slots Q (F0 m pc ls (List.map (vg_cv G.2.2) (Value.ref r :: st))) := by
            intro v _ hb2 hv hk
            subst hb2
            exact va_get (D := G.1) (C := q.1) (T := q.2.1) (N := q.2.2) hx hb hts hcls.1 hown hE.1 hP r he hq2 c0 hc0 (hts _ (vg_wd_in hlk.2)) (fun _ h9 => h9) hv hdg (kK _ _ _ _ _ _ hk hl hP hS)
          split at h
          · rename_i hb2 hk
            exact go (.int (σ.1 r c0)) rfl (Nat.eq_of_beq_eq_true hb2) (by rw [vg_fl_at, ← vg_nth_eq, hk]; simp [vg_fv, vg_cv]) (h _ rfl)
          · rename_i hb2 hk
            exact go (.long (σ.2 r c0)) rfl (Nat.eq_of_beq_eq_true hb2) (by rw [vg_fl_at, ← vg_nth_eq, hk]; simp [vg_fv, vg_cv]) (h _ rfl)
          · rename_i n hb2 hk
            exact go (.ref n) rfl (Nat.eq_of_beq_eq_true hb2) (by rw [vg_fl_at, ← vg_nth_eq, hk]; simp [vg_fv, vg_cv]) h
          · exact h.elim
        · cases hlk
      · exact h.elim
    · exact h.elim
  | putfield i =>
    have hln : len = 3 := hln
    subst hln
    simp only [vg_ex] at h
    simp only [vg_lks] at hlk
    split at hlk
    · rename_i q hq
      simp only [Bool.and_eq_true, decide_eq_true_eq, Bool.not_eq_true'] at hlk
      obtain ⟨⟨⟨hk0, hlw⟩, hfin⟩, hpd⟩ := hlk
      have hcls := vg_cls hq
      obtain ⟨ty0, hty⟩ := hcls.2.2
      have hc0 : c0 < q.2.2 := by simpa [Nat.blt_eq] using hk0
      have hq2 : vwCl[b]? = some q := by rw [← vg_nth_eq]; exact hq
      have hD := vg_cw_D G.2.1 G.2.2 σ sh hap
      split at h
      · rename_i x r st
        split at h
        · rename_i ci ks hr
          have hr2 : sh[r]? = some (.inr (ci, ks)) := by rw [← vg_nth_eq]; exact hr
          have he : (vg_cw G.2.1 G.2.2 σ 0 sh)[r]? = some (G.2.2 r, .inr (ci, vg_fl G.2.2 (σ.1 r) (σ.2 r) 0 ks)) := by
            rw [vg_cw_at, hr2]
            simp [vg_ce]
          have go : ci = b → vg_nth ks c0 = some 0 → (z = 0 ∨ (z = 1 ∧ (x = 0 ∨ x = 1))) → K L st (vg_u1 σ r c0 x) → W p l e R s m args below meth c H locs cells slots Q (F0 m pc ls (List.map (vg_cv G.2.2) (Value.int x :: Value.ref r :: st))) := by
            intro hb2 hk hz hh
            subst hb2
            have hk2 : ks[c0]? = some 0 := by rw [← vg_nth_eq]; exact hk
            have hnr := vg_nr hz
            refine va_put (D := G.1) (C := q.1) (T := q.2.1) (N := q.2.2) (v := .int x) hx hb hts hcls.1 ty0 hty hcls.2.1 hown hE.1 hP hD hS r he hq2 c0 hc0 (hts _ (vg_wd_in hlw)) (fun _ h9 => h9) hfin hpd hnr.1 hnr.2 (by rw [vg_fl_len]; exact (List.getElem?_eq_some_iff.mp hk2).1) hdg (fun H1 locs1 hP1 hD1 hS1 => kK _ _ _ _ _ _ hh hl ?_ hS1)
            rw [vg_fl_set1 _ _ _ _ _ _ hk2] at hP1
            have := vg_cw_set1 G.2.1 G.2.2 σ sh r (.inr (ci, ks)) (upd (σ.1 r) c0 x) hr2
            simp only [vg_ce] at this
            rw [this] at hP1
            exact hP1
          split at h
          · rename_i hb2 hk
            exact go (Nat.eq_of_beq_eq_true hb2) hk (Or.inl rfl) (h _ rfl)
          · rename_i hb2 hk
            exact go (Nat.eq_of_beq_eq_true hb2) hk (Or.inr ⟨rfl, h.1⟩) (h.2 _ rfl)
          · exact h.elim
        · exact h.elim
      · rename_i x r st
        split at h
        · rename_i ci ks hr
          have hr2 : sh[r]? = some (.inr (ci, ks)) := by rw [← vg_nth_eq]; exact hr
          have he : (vg_cw G.2.1 G.2.2 σ 0 sh)[r]? = some (G.2.2 r, .inr (ci, vg_fl G.2.2 (σ.1 r) (σ.2 r) 0 ks)) := by
            rw [vg_cw_at, hr2]
            simp [vg_ce]
          split at h
          · rename_i hb2 hk
            have hb2 := Nat.eq_of_beq_eq_true hb2
            subst hb2
            have hk2 : ks[c0]? = some 1 := by rw [← vg_nth_eq]; exact hk
            refine va_put (D := G.1) (C := q.1) (T := q.2.1) (N := q.2.2) (ty := .long) (v := .long x) hx hb hts hcls.1 ty0 hty hcls.2.1 hown hE.1 hP hD hS r he hq2 c0 hc0 (hts _ (vg_wd_in hlw)) (fun _ h9 => h9) hfin hpd rfl rfl (by rw [vg_fl_len]; exact (List.getElem?_eq_some_iff.mp hk2).1) hdg (fun H1 locs1 hP1 hD1 hS1 => kK _ _ _ _ _ _ (h _ rfl) hl ?_ hS1)
            rw [vg_fl_set2 _ _ _ _ _ _ hk2] at hP1
            have := vg_cw_set2 G.2.1 G.2.2 σ sh r (.inr (ci, ks)) (vp_updL (σ.2 r) c0 x) hr2
            simp only [vg_ce] at this
            rw [this] at hP1
            exact hP1
          · exact h.elim
        · exact h.elim
      · exact h.elim
    · cases hlk
  | getstatic i =>
    have hln : len = 3 := hln
    subst hln
    simp only [vg_ex] at h
    simp only [vg_lks] at hlk
    split at hlk
    · rename_i q hq
      simp only [Bool.and_eq_true] at hlk
      have ha : q.1 = a := Nat.eq_of_beq_eq_true hlk.1
      subst ha
      split at h
      · exact va_gets hx hb (hE.2.2.2 q (by rw [vg_nth_eq] at hq; exact List.mem_of_getElem? hq)) hS hown (hts _ (vg_wd_in hlk.2)) (fun _ h9 => h9) hdg (kK _ _ _ _ _ _ h hl hP hS)
      · exact h.elim
    · cases hlk
  | iaload =>
    have hln : len = 1 := hln
    subst hln
    simp only [vg_ex] at h
    split at h
    · rename_i i r st
      split at h
      · rename_i n rs hr
        have he : (vg_cw G.2.1 G.2.2 σ 0 sh)[r]? = some (G.2.2 r, .inl (G.2.1 0, n, .inl (σ.1 r))) := by
          rw [vg_cw_at, ← vg_nth_eq, hr]
          simp [vg_ce]
        exact va_iald hx hb hE.1 hP r 0 he rfl h.1.in hdg (kK _ _ _ _ _ _ (h.2 _ rfl) hl hP hS)
      · split at h
        · rename_i n f hf
          exact va_ti hx hb (hE.2.2.1 r n f hf) hS h.1.in rfl hdg (kK _ _ _ _ _ _ (h.2 _ rfl) hl hP hS)
        · exact h.elim
      · exact h.elim
    · exact h.elim
  | laload =>
    have hln : len = 1 := hln
    subst hln
    simp only [vg_ex] at h
    split at h
    · rename_i i r st
      split at h
      · rename_i n rs hr
        have he : (vg_cw G.2.1 G.2.2 σ 0 sh)[r]? = some (G.2.2 r, .inl (G.2.1 1, n, .inr (.inl (σ.2 r)))) := by
          rw [vg_cw_at, ← vg_nth_eq, hr]
          simp [vg_ce]
        exact va_lald hx hb hE.1 hP r 1 he rfl h.1.in hdg (kK _ _ _ _ _ _ (h.2 _ rfl) hl hP hS)
      · exact h.elim
    · exact h.elim
  | aaload =>
    have hln : len = 1 := hln
    subst hln
    simp only [vg_ex] at h
    split at h
    · rename_i i r st
      split at h
      · rename_i t n rs hr
        have he : (vg_cw G.2.1 G.2.2 σ 0 sh)[r]? = some (G.2.2 r, .inl (G.2.1 (t + 2), n, .inr (.inr (.inr (.inr (fun j => (rs[j]?).map G.2.2)))))) := by
          rw [vg_cw_at, ← vg_nth_eq, hr]
          simp [vg_ce]
        have hn : n ≤ rs.length := Nat.le_of_ble_eq_true h.1
        have hin := h.2.1.in
        obtain ⟨h1, h2⟩ := h.2.1
        have hlt : i.toInt.toNat < rs.length := by omega
        have hkk : rs[i.toNatClampNeg]? = some (rs[i.toInt.toNat]'hlt) := List.getElem?_eq_getElem hlt
        have hgo := vg_al_go rs 0 h.2.2 i.toInt.toNat _ (by omega) (List.getElem?_eq_getElem hlt)
        have hty : t = 0 ∨ t = 1 := hsh r t n rs hr
        rcases hty with rfl | rfl
        · refine va_aldq (C := "NoiseShaper$Fold") hx hb hE.1 hP r 2 he rfl hin hdg ?_
          simp only [hkk]
          exact kK _ _ _ _ _ _ hgo hl hP hS
        · refine va_aldq (C := "NoiseShaper$Latest") hx hb hE.1 hP r 3 he rfl hin hdg ?_
          simp only [hkk]
          exact kK _ _ _ _ _ _ hgo hl hP hS
      · exact h.elim
    · exact h.elim
  | iastore =>
    have hln : len = 1 := hln
    subst hln
    simp only [vg_ex] at h
    split at h
    · rename_i x i r st
      split at h
      · rename_i n rs hr
        have hr2 : sh[r]? = some (.inl (0, n, rs)) := by rw [← vg_nth_eq]; exact hr
        have he : (vg_cw G.2.1 G.2.2 σ 0 sh)[r]? = some (G.2.2 r, .inl (G.2.1 0, n, .inl (σ.1 r))) := by
          rw [vg_cw_at, hr2]
          simp [vg_ce]
        refine va_iast hx hb hE.1 hP (vg_cw_D G.2.1 G.2.2 σ sh hap) hS r 0 he rfl h.1.in hdg (fun H1 locs1 hP1 hD1 hS1 => kK _ _ _ _ _ _ (h.2 _ rfl) hl ?_ hS1)
        have := vg_cw_set1 G.2.1 G.2.2 σ sh r (.inl (0, n, rs)) (upd (σ.1 r) i.toNatClampNeg x) hr2
        simp only [vg_ce] at this
        rw [this] at hP1
        exact hP1
      · exact h.elim
    · exact h.elim
  | lastore =>
    have hln : len = 1 := hln
    subst hln
    simp only [vg_ex] at h
    split at h
    · rename_i x i r st
      split at h
      · rename_i n rs hr
        have hr2 : sh[r]? = some (.inl (1, n, rs)) := by rw [← vg_nth_eq]; exact hr
        have he : (vg_cw G.2.1 G.2.2 σ 0 sh)[r]? = some (G.2.2 r, .inl (G.2.1 1, n, .inr (.inl (σ.2 r)))) := by
          rw [vg_cw_at, hr2]
          simp [vg_ce]
        refine va_last hx hb hE.1 hP (vg_cw_D G.2.1 G.2.2 σ sh hap) hS r 1 he rfl h.1.in hdg (fun H1 locs1 hP1 hD1 hS1 => kK _ _ _ _ _ _ (h.2 _ rfl) hl ?_ hS1)
        have := vg_cw_set2 G.2.1 G.2.2 σ sh r (.inl (1, n, rs)) (vp_updL (σ.2 r) i.toNatClampNeg x) hr2
        simp only [vg_ce] at this
        rw [this] at hP1
        exact hP1
      · exact h.elim
    · exact h.elim
  | arraylength =>
    have hln : len = 1 := hln
    subst hln
    simp only [vg_ex] at h
    split at h
    · rename_i r st
      split at h
      · rename_i t n rs hr
        match t, hr with
        | 0, hr =>
          have he : (vg_cw G.2.1 G.2.2 σ 0 sh)[r]? = some (G.2.2 r, .inl (G.2.1 0, n, .inl (σ.1 r))) := by
            rw [vg_cw_at, ← vg_nth_eq, hr]
            simp [vg_ce]
          exact va_alen hx hb hE.1 hP r 0 he (ty := .int) rfl rfl hdg (kK _ _ _ _ _ _ h hl hP hS)
        | 1, hr =>
          have he : (vg_cw G.2.1 G.2.2 σ 0 sh)[r]? = some (G.2.2 r, .inl (G.2.1 1, n, .inr (.inl (σ.2 r)))) := by
            rw [vg_cw_at, ← vg_nth_eq, hr]
            simp [vg_ce]
          exact va_alen hx hb hE.1 hP r 1 he (ty := .long) rfl rfl hdg (kK _ _ _ _ _ _ h hl hP hS)
        | t + 2, hr =>
          have he : (vg_cw G.2.1 G.2.2 σ 0 sh)[r]? = some (G.2.2 r, .inl (G.2.1 (t + 2), n, .inr (.inr (.inr (.inr (fun j => (rs[j]?).map G.2.2)))))) := by
            rw [vg_cw_at, ← vg_nth_eq, hr]
            simp [vg_ce]
          rcases hsh r t n rs hr with rfl | rfl
          · exact va_alen hx hb hE.1 hP r 2 he (ty := .object "NoiseShaper$Fold") rfl rfl hdg (kK _ _ _ _ _ _ h hl hP hS)
          · exact va_alen hx hb hE.1 hP r 3 he (ty := .object "NoiseShaper$Latest") rfl rfl hdg (kK _ _ _ _ _ _ h hl hP hS)
      · split at h
        · rename_i n f hf
          exact va_tlen hx hb (hE.2.2.1 r n f hf) hS rfl hdg (kK _ _ _ _ _ _ h hl hP hS)
        · exact h.elim
      · exact h.elim
    · exact h.elim
  | invokevirtual i =>
    have hln : len = 3 := hln
    subst hln
    simp only [vg_ex] at h
    split at h
    · rename_i r o rest hr hd
      split at h
      · rename_i ci ks ho
        split at h
        · rename_i hci hn
          exact vg_goV (rt := rt) X hdg hlk hl hP hS hr hd ho hci hn h (fun st σ H locs hk hP hS => kK _ _ _ _ _ _ hk hl hP hS)
        · exact h.elim
      · exact h.elim
    · exact h.elim
  | invokestatic i =>
    have hln : len = 3 := hln
    subst hln
    simp only [vg_ex] at h
    split at h
    · simp only [vg_lks, Bool.and_eq_true] at hlk
      split at h
      · rename_i n dp kd sp ks rest
        split at h
        · rename_i n0 r0 n1 r1 hs hdd
          obtain ⟨h0, h1, h2, h3, h4, h5, h6⟩ := h
          obtain ⟨g1, g2, g3, g4, g5⟩ := hcp hlk.1
          have hd2 : sh[kd]? = some (.inl (0, n1, r1)) := by rw [← vg_nth_eq]; exact hdd
          have he0 : (vg_cw G.2.1 G.2.2 σ 0 sh)[ks]? = some (G.2.2 ks, .inl (G.2.1 0, n0, .inl (σ.1 ks))) := by
            rw [vg_cw_at, ← vg_nth_eq, hs]
            simp [vg_ce]
          have he1 : (vg_cw G.2.1 G.2.2 σ 0 sh)[kd]? = some (G.2.2 kd, .inl (G.2.1 0, n1, .inl (σ.1 kd))) := by
            rw [vg_cw_at, hd2]
            simp [vg_ce]
          refine va_copyi hx hb (hml.trans hl.1.1.symm) hown (hts _ (vg_wd_in hlk.2)) g3 g4 g5 hE.1 hP (vg_cw_D G.2.1 G.2.2 σ sh hap) hS ks kd 0 0 he0 he1 rfl rfl rfl (vg_nn h1) (vg_nn h2) (vg_nn h3) (by rw [vg_clamp, vg_clamp]; omega) (by rw [vg_clamp, vg_clamp]; omega) (fun i hi => rfl) g1 (by rw [vg_cat_eq]; omega) hdg (fun H1 locs1 hP1 hD1 hS1 => kK _ _ _ _ _ _ (h6 _ rfl) hl ?_ hS1)
          have := vg_cw_set1 G.2.1 G.2.2 σ sh kd (.inl (0, n1, r1)) (va_cpy (σ.1 ks) (σ.1 kd) sp.toNatClampNeg dp.toNatClampNeg n.toNatClampNeg) hd2
          simp only [vg_ce] at this
          rw [this] at hP1
          exact hP1
        · exact h.elim
      · exact h.elim
    · rename_i hb3
      split at h
      · rename_i r hr hn
        exact vg_goS (rt := rt) X hdg hb3 hlk hl hP hS hr hn h (fun st σ H locs hk hP hS => kK _ _ _ _ _ _ hk hl hP hS)
      · exact h.elim
  | ireturn =>
    have hln : len = 1 := hln
    subst hln
    simp only [vg_ex] at h
    split at h
    · rename_i x
      exact kR (some (.int x)) _ _ _ _ hok trivial h hl hP hS
    · rename_i x
      exact kR (some (.int x)) _ _ _ _ hok h.1 h.2 hl hP hS
    · exact h.elim
  | lreturn =>
    have hln : len = 1 := hln
    subst hln
    simp only [vg_ex] at h
    split at h
    · rename_i x
      exact kR (some (.long x)) _ _ _ _ hok trivial h hl hP hS
    · exact h.elim
  | areturn =>
    have hln : len = 1 := hln
    subst hln
    simp only [vg_ex] at h
    split at h
    · rename_i x
      exact kR (some (.ref x)) _ _ _ _ hok trivial h hl hP hS
    · exact h.elim
  | return_ =>
    have hln : len = 1 := hln
    subst hln
    simp only [vg_ex] at h
    split at h
    · exact kR none _ _ _ _ hok trivial h hl hP hS
    · exact h.elim
  | _ => exact False.elim h
end VGS
end
section
/-! from a walk to a contract -/
theorem vg_chain_tl {q : vg_I} {r : List vg_I} (h : vg_chain (q :: r) = true) : vg_chain r = true := by
  simp only [vg_chain, Bool.and_eq_true] at h
  exact h.2
theorem vg_chain_hd {q q2 : vg_I} {r : List vg_I} (h : vg_chain (q :: q2 :: r) = true) : q2.1 = q.1 + q.2.2.1 := by
  simp only [vg_chain, Bool.and_eq_true] at h
  exact (Nat.eq_of_beq_eq_true h.1).symm
theorem vg_find_good (f : vg_I → Bool) : ∀ (cd : List vg_I) (t : Nat), cd.all f = true → vg_chain cd = true → (vg_find cd t).all f = true ∧ vg_chain (vg_find cd t) = true ∧ ∀ q r, vg_find cd t = q :: r → q.1 = t
  | [], t, h1, h2 => ⟨rfl, rfl, fun q r h => by cases h⟩
  | q :: r, t, h1, h2 => by
    unfold vg_find
    split
    · rename_i hb
      exact ⟨h1, h2, fun q' r' h => by cases h; exact Nat.eq_of_beq_eq_true hb⟩
    · simp only [List.all_cons, Bool.and_eq_true] at h1
      exact vg_find_good f r t h1.2 (vg_chain_tl h2)
section VGM
variable {p : Program} {l : Launch} {e : Env} {R : Room} {s : State} {m : MethodId} {args : Array Value} {below : List Frame} {meth : Method} {c : Code} {cells slots : Nat} {Q : State → Prop}
variable {own : String} {cc : ByteArray} {nL : Nat} {G : vg_G} {sh : List vg_C} {ro : Nat → Option (Nat × (Nat → Int32))} {cs : List vg_R} {cp : Bool} {rt : Option FieldType} {po : Option Value → vg_S → Prop} {I : Nat → Option vg_V} {cd : List vg_I}
/-- a walk that may end at cuts -/
theorem vg_walk (X : vg_X p l R s m args c cells slots own cc nL G sh ro cs cp) (hsh : ∀ r t n rs, vg_nth sh r = some (.inl (t + 2, n, rs)) → t = 0 ∨ t = 1) (hcd : cd.all (vg_ok own cc cs rt cp) = true) (hch : vg_chain cd = true) (bd : Option Nat)
    (kH : ∀ h iv L σ H locs ls, I h = some iv → iv.2.1 L σ → vg_bd bd (iv.2.2 L σ) → vg_lr G.2.2 ls nL L → vg_P G sh σ H → va_S (vg_A G.2.2 sh.length) s.heap H locs → W p l e R s m args below meth c H locs cells slots Q (F0 m h ls []))
    (kR : ∀ pc op len a b c0 z L v σ H locs ls, vg_ok own cc cs rt cp (pc, op, len, a, b, c0, z) = true → vg_isret op z v → po v σ → vg_lr G.2.2 ls nL L → vg_P G sh σ H → va_S (vg_A G.2.2 sh.length) s.heap H locs → W p l e R s m args below meth c H locs cells slots Q (F0 m pc ls ((v.map (vg_cv G.2.2)).toList))) :
    ∀ (n : Nat) (fl : Bool) (q : vg_I) (nx : List vg_I) (L : vg_L) (st : List Value) (σ : vg_S) (H : Heap) (locs : List Loc) (ls : Array Slot), (q :: nx).all (vg_ok own cc cs rt cp) = true → vg_chain (q :: nx) = true → vg sh ro cs po I cd bd n fl (q :: nx) L st σ → vg_lr G.2.2 ls nL L → vg_P G sh σ H → va_S (vg_A G.2.2 sh.length) s.heap H locs → W p l e R s m args below meth c H locs cells slots Q (F0 m q.1 ls (st.map (vg_cv G.2.2))) := by
  intro n
  induction n with
  | zero => intro fl q nx L st σ H locs ls _ _ h; exact (h : False).elim
  | succ n ih =>
    intro fl q nx L st σ H locs ls h1 h2 h hl hP hS
    have main : vg_ex sh ro cs po (fun L st σ => vg sh ro cs po I cd bd n false nx L st σ) (fun L st σ t => vg sh ro cs po I cd bd n false (vg_find cd t) L st σ) q L st σ → W p l e R s m args below meth c H locs cells slots Q (F0 m q.1 ls (st.map (vg_cv G.2.2))) := by
      intro h
      obtain ⟨pc, op, len, a, b, c0, z⟩ := q
      have h1' := h1
      simp only [List.all_cons, Bool.and_eq_true] at h1'
      refine vg_ex_sound X hsh h1'.1 hl hP hS h (fun L st σ H locs ls hk hl hP hS => ?_) (fun L st σ t H locs ls hk hl hP hS => ?_) (fun v σ H locs ls => kR pc op len a b c0 z L v σ H locs ls)
      · cases nx with
        | nil => cases n <;> exact (hk : False).elim
        | cons q2 r =>
          have he := vg_chain_hd h2
          have := ih false q2 r L st σ H locs ls h1'.2 (vg_chain_tl h2) hk hl hP hS
          rw [he] at this
          exact this
      · have hf := vg_find_good _ cd t hcd hch
        cases hv : vg_find cd t with
        | nil => rw [hv] at hk; cases n <;> exact (hk : False).elim
        | cons q2 r =>
          rw [hv] at hk hf
          have := ih false q2 r L st σ H locs ls hf.1 hf.2.1 hk hl hP hS
          rw [hf.2.2 q2 r rfl] at this
          exact this
    cases fl with
    | true => exact main h
    | false =>
      have h : (match I q.1 with
        | none => vg_ex sh ro cs po (fun L st σ => vg sh ro cs po I cd bd n false nx L st σ) (fun L st σ t => vg sh ro cs po I cd bd n false (vg_find cd t) L st σ) q L st σ
        | some iv => st = [] ∧ iv.2.1 (vg_mask iv.1 L) σ ∧ vg_bd bd (iv.2.2 (vg_mask iv.1 L) σ)) := h
      cases hi : I q.1 with
      | none => rw [hi] at h; exact main h
      | some iv =>
        rw [hi] at h
        obtain ⟨rfl, h3, h4⟩ := h
        exact kH q.1 iv (vg_mask iv.1 L) σ H locs ls hi h3 h4 (hl.mask _) hP hS
theorem vg_loops (X : vg_X p l R s m args c cells slots own cc nL G sh ro cs cp) (hsh : ∀ r t n rs, vg_nth sh r = some (.inl (t + 2, n, rs)) → t = 0 ∨ t = 1) (hcd : cd.all (vg_ok own cc cs rt cp) = true) (hch : vg_chain cd = true) (N : Nat)
    (hI : ∀ h iv, I h = some iv → ∀ L σ, iv.2.1 L σ → vg sh ro cs po I cd (some (iv.2.2 L σ)) N true (vg_find cd h) L [] σ)
    (kR : ∀ pc op len a b c0 z L v σ H locs ls, vg_ok own cc cs rt cp (pc, op, len, a, b, c0, z) = true → vg_isret op z v → po v σ → vg_lr G.2.2 ls nL L → vg_P G sh σ H → va_S (vg_A G.2.2 sh.length) s.heap H locs → W p l e R s m args below meth c H locs cells slots Q (F0 m pc ls ((v.map (vg_cv G.2.2)).toList))) :
    ∀ (k : Nat) h iv L σ H locs ls, I h = some iv → iv.2.1 L σ → iv.2.2 L σ ≤ k → vg_lr G.2.2 ls nL L → vg_P G sh σ H → va_S (vg_A G.2.2 sh.length) s.heap H locs → W p l e R s m args below meth c H locs cells slots Q (F0 m h ls []) := by
  intro k
  induction k using Nat.strongRecOn with
  | ind k ih =>
    intro h iv L σ H locs ls hi h3 hk hl hP hS
    have hw := hI h iv hi L σ h3
    have hf := vg_find_good _ cd h hcd hch
    cases hv : vg_find cd h with
    | nil => rw [hv] at hw; cases N <;> exact (hw : False).elim
    | cons q2 r =>
      rw [hv] at hw hf
      have := vg_walk (e := e) (below := below) (meth := meth) (Q := Q) X hsh hcd hch (some (iv.2.2 L σ)) (fun h' iv' L' σ' H' locs' ls' hi' h3' hb' hl' hP' hS' => ih (iv'.2.2 L' σ') (by have hb' : iv'.2.2 L' σ' < iv.2.2 L σ := hb'; omega) h' iv' L' σ' H' locs' ls' hi' h3' (Nat.le_refl _) hl' hP' hS') kR N true q2 r L [] σ H locs ls hf.1 hf.2.1 hw hl hP hS
      rw [hf.2.2 q2 r rfl] at this
      exact this
/-- a walk from any instruction -/
theorem vg_sound (X : vg_X p l R s m args c cells slots own cc nL G sh ro cs cp) (hsh : ∀ r t n rs, vg_nth sh r = some (.inl (t + 2, n, rs)) → t = 0 ∨ t = 1) (hcd : cd.all (vg_ok own cc cs rt cp) = true) (hch : vg_chain cd = true) (N : Nat)
    (hI : ∀ h iv, I h = some iv → ∀ L σ, iv.2.1 L σ → vg sh ro cs po I cd (some (iv.2.2 L σ)) N true (vg_find cd h) L [] σ)
    (kR : ∀ pc op len a b c0 z L v σ H locs ls, vg_ok own cc cs rt cp (pc, op, len, a, b, c0, z) = true → vg_isret op z v → po v σ → vg_lr G.2.2 ls nL L → vg_P G sh σ H → va_S (vg_A G.2.2 sh.length) s.heap H locs → W p l e R s m args below meth c H locs cells slots Q (F0 m pc ls ((v.map (vg_cv G.2.2)).toList)))
    (n : Nat) (fl : Bool) (q : vg_I) (nx : List vg_I) (L : vg_L) (st : List Value) (σ : vg_S) (H : Heap) (locs : List Loc) (ls : Array Slot) (h1 : (q :: nx).all (vg_ok own cc cs rt cp) = true) (h2 : vg_chain (q :: nx) = true) (h : vg sh ro cs po I cd none n fl (q :: nx) L st σ) (hl : vg_lr G.2.2 ls nL L) (hP : vg_P G sh σ H) (hS : va_S (vg_A G.2.2 sh.length) s.heap H locs) : W p l e R s m args below meth c H locs cells slots Q (F0 m q.1 ls (st.map (vg_cv G.2.2))) :=
  vg_walk X hsh hcd hch none (fun h' iv' L' σ' H' locs' ls' hi' h3' _ hl' hP' hS' => vg_loops X hsh hcd hch N hI kR _ h' iv' L' σ' H' locs' ls' hi' h3' (Nat.le_refl _) hl' hP' hS') kR n fl q nx L st σ H locs ls h1 h2 h hl hP hS
end VGM
theorem vg_sl_len (ad : Nat → Nat) : ∀ as : List Value, (lg_sl (as.map (vg_cv ad))).length = vg_cat as
  | [] => rfl
  | v :: r => by
    have h := vg_sl_len ad r
    have hv := vg_cv_cat ad v
    simp only [List.map_cons, vg_cat, lg_sl, List.flatMap_cons, List.length_append] at h ⊢
    rw [h]
    congr 1
    rw [← hv]
    generalize vg_cv ad v = w
    cases w <;> simp [Value.category]
def vg_rk (rt : Option FieldType) : Nat := match rt with
  | none => 0
  | some .int => 1
  | some .boolean => 1
  | some .long => 2
  | _ => 3
def vg_cpw : List Cond := [.native arraycopyName, .static arraycopyName, .initialized "java/lang/System"]
set_option maxHeartbeats 1000000 in
/-- A METHOD: its code walked gives its contract -/
theorem vg_meth {l : Launch} {G : vg_G} {sh : List vg_C} (hap : ∀ i j, i < sh.length → j < sh.length → G.2.2 i = G.2.2 j → i = j) (hsh : ∀ r t n rs, vg_nth sh r = some (.inl (t + 2, n, rs)) → t = 0 ∨ t = 1) (r : vg_R) (hrok : vg_rok r) (hrk : r.1.2.2.2.2.2.2.1 = vg_rk r.1.2.2.2.1) (hrf : r.1.2.2.2.1 = some (.array .int) → ∀ as σ k σ', r.2.2 as σ (some (.ref k)) σ' → k ∈ r.1.2.2.2.2.2.2.2.1)
    (cd : List vg_I) (cs : List vg_R) (cp : Bool) (hcd : cd.all (vg_ok r.1.1.cls r.1.2.1 cs r.1.2.2.2.1 cp) = true) (hch : vg_chain cd = true) (hc0 : ∃ q nx, cd = q :: nx ∧ q.1 = 0) (hcs : ∀ x ∈ cs, vg_Ct l G sh x ∧ x.1.2.2.2.2.1 + 1 ≤ r.1.2.2.2.2.1 ∧ 8 + (x.1.2.2.1 + 11) + x.1.2.2.2.2.2.1 ≤ r.1.2.2.2.2.2.1) (hcp : cp = true → (1 ≤ r.1.2.2.2.2.1 ∧ 8 + (nativeFrameWords "java/lang/System" "arraycopy" 5 + 11) ≤ r.1.2.2.2.2.2.1) ∧ ∀ w ∈ vg_cpw, w ∈ vg_GW)
    (N : Nat) (h0 : ∀ as σ, r.2.1 as σ → vg_cat as ≤ r.1.2.2.1 ∧ ∃ Il : List (Nat × vg_V), vg sh vg_ro0 cs (r.2.2 as σ) (vg_lkp Il) cd none N true cd (vg_pad r.1.2.2.1 (vg_l0 as)) [] σ ∧ ∀ q ∈ Il, ∀ L σ', q.2.2.1 L σ' → vg sh vg_ro0 cs (r.2.2 as σ) (vg_lkp Il) cd (some (q.2.2.2 L σ')) N true (vg_find cd q.1) L [] σ') : vg_Ct l G sh r := by
  refine ⟨hrok, fun as σ hpre => ?_⟩
  obtain ⟨hcode, hini, hnm, hpl, hst⟩ := id hrok
  obtain ⟨hsz, Il, hw, hI0⟩ := h0 as σ hpre
  have hI := fun h iv (hh : vg_lkp Il h = some iv) => hI0 (h, iv) (vg_lkp_in Il h iv hh)
  refine va_MetF (cc := r.1.2.1) (maxL := r.1.2.2.1) (ret := r.1.2.2.2.1) hpl rfl ?_
  intro p e s m args below meth c s₁ B hml hv
  obtain ⟨rfl, hP, hE⟩ := hv
  have hts0 := atoms_spec (ws := Cond.code r.1.1 r.1.2.1 r.1.2.2.1 r.1.2.2.2.1 :: vg_GW) B.pre
  have hts : ∀ w ∈ vg_GW, w.before _ s = true := fun w hw => hts0 w (List.mem_cons_of_mem _ hw)
  have hown : s.vm.findClass r.1.1.cls = some m.cls := findClass_of_methodNamed B.named
  have hlocks := B.notSynchronized
  have hret := B.returns
  have X : vg_X p l (headSpec (Cond.code r.1.1 r.1.2.1 r.1.2.2.1 r.1.2.2.2.1 :: vg_GW) { frames := r.1.2.2.2.2.1, cells := 0, slots := 0, locals := r.1.2.2.2.2.2.1 }).room s m (as.map (vg_cv G.2.2)).toArray c 0 0 r.1.1.cls r.1.2.1 r.1.2.2.1 G sh vg_ro0 cs cp :=
    ⟨B.exec, B.bytes, hml, hown, hts, hap, hE, fun _ _ h => h, hcs, fun q => ⟨(hcp q).1.1, (hcp q).1.2, hts _ ((hcp q).2 _ (by simp [vg_cpw])), hts _ ((hcp q).2 _ (by simp [vg_cpw])), hts _ ((hcp q).2 _ (by simp [vg_cpw]))⟩, Nat.le_refl _, Nat.le_refl _⟩
  rw [lg_entry_eq]
  have hl := vg_entry G.2.2 as r.1.2.2.1 (by rw [vg_sl_len]; exact hsz)
  obtain ⟨q, nx, hq, hq0⟩ := hc0
  have fin : ∀ pc op len a b c0 z L v σ' H locs ls, vg_ok r.1.1.cls r.1.2.1 cs r.1.2.2.2.1 cp (pc, op, len, a, b, c0, z) = true → vg_isret op z v → r.2.2 as σ v σ' → vg_lr G.2.2 ls r.1.2.2.1 L → vg_P G sh σ' H → va_S (vg_A G.2.2 sh.length) s.heap H locs → W p l e (headSpec (Cond.code r.1.1 r.1.2.1 r.1.2.2.1 r.1.2.2.2.1 :: vg_GW) { frames := r.1.2.2.2.2.1, cells := 0, slots := 0, locals := r.1.2.2.2.2.2.1 }).room s m (as.map (vg_cv G.2.2)).toArray below meth c H locs 0 0 (MQ below (vg_Q G sh r as σ) (as.map (vg_cv G.2.2)).toArray s 0 0 (vg_A G.2.2 sh.length)) (F0 m pc ls ((v.map (vg_cv G.2.2)).toList)) := by
    intro pc op len a b c0 z L v σ' H locs ls hok hir hpo hl hP hS
    obtain ⟨hdg, hln, hlk, -⟩ := vg_ok_spec hok
    have hq : ∀ rf : vg_rf r v, ∀ t : State, t.heap = H → s.WarmedH t.vm → vg_Q G sh r as σ (as.map (vg_cv G.2.2)).toArray s (.returned (v.map (vg_cv G.2.2))) t := fun rf t ht _ => ⟨⟨v, σ', rfl, rf, hpo, by rw [ht]; exact hP⟩, hS.F ht⟩
    unfold vg_isret at hir
    split at hir
    · have hrt : r.1.2.2.2.1 = some .int := of_decide_eq_true hlk
      have hln : len = 1 := hln
      subst hln
      exact W.zret B.exec B.bytes (hret.trans hrt) rfl (hq (by unfold vg_rf; rw [hrk, hrt]; exact ⟨_, rfl⟩)) hS.2.2 hdg
    · have hrt : r.1.2.2.2.1 = some .boolean := of_decide_eq_true hlk
      have hln : len = 1 := hln
      subst hln
      refine W.zret B.exec B.bytes (hret.trans hrt) ?_ (hq (by unfold vg_rf; rw [hrk, hrt]; exact ⟨_, rfl⟩)) hS.2.2 hdg
      rcases hir with rfl | rfl <;> rfl
    · have hrt : r.1.2.2.2.1 = some .long := of_decide_eq_true hlk
      have hln : len = 1 := hln
      subst hln
      exact W.lret B.exec B.bytes (hret.trans hrt) (hq (by unfold vg_rf; rw [hrk, hrt]; exact ⟨_, rfl⟩)) hS.2.2 hdg
    · have hrt : r.1.2.2.2.1 = some (.array .int) := of_decide_eq_true hlk
      have hln : len = 1 := hln
      subst hln
      exact W.aret B.exec B.bytes (hret.trans hrt) (Or.inr ⟨_, rfl⟩) (Or.inr ⟨_, rfl⟩) (hq (by unfold vg_rf; rw [hrk, hrt]; exact ⟨_, hrf hrt _ _ _ _ hpo, rfl⟩)) hS.2.2 hdg
    · have hrt : r.1.2.2.2.1 = none := of_decide_eq_true hlk
      have hln : len = 1 := hln
      subst hln
      exact W.vret B.exec B.bytes (hret.trans hrt) (hq (by unfold vg_rf; rw [hrk, hrt]; rfl)) hS.2.2 hdg
    · exact hir.elim
  subst hq
  have := vg_sound (e := e) (below := below) (meth := meth) X hsh hcd hch N hI fin N true q nx _ [] σ s.heap [] _ hcd hch hw hl hP va_S.rf
  rw [hq0] at this
  exact this
/-- the machine has rows of its own only for Math's members on floats and doubles -/
theorem vg_mathRows : (Jvm.natives.all fun r => r.cls != "java/lang/Math" || ["(D)D", "(DD)D", "(DDD)D", "(F)F", "(FF)F", "(FFF)F"].contains r.desc) = true := by decide +kernel
theorem vg_mathPlain {x : MethodName} (hc : x.cls = "java/lang/Math") (hd : ["(D)D", "(DD)D", "(DDD)D", "(F)F", "(FF)F", "(FFF)F"].contains x.desc = false) : plainFor x = true := by
  unfold plainFor
  rw [Bool.or_eq_true]; right
  rw [Option.isNone_iff_eq_none, NativeRow.find?, List.find?_eq_none]
  intro r hr h
  have := List.all_eq_true.mp vg_mathRows r hr
  simp only [Bool.and_eq_true, beq_iff_eq] at h
  rw [h.1.2, h.2, hc, hd] at this
  simp at this
end
section
/-! the places of the class's cells (0 to 54) and the reference's (55 to 67); what always holds; what most calls keep -/
def vg_sh : List vg_C := [.inr (10, [0, 0, 0, 3, 5, 9, 14, 18, 20, 21, 22, 24, 28, 33]), .inr (7, [0, 0, 0, 0, 4]), .inl (0, 16, []), .inr (5, [6, 7, 8, 0, 0, 0, 0, 0, 0, 1, 1, 1, 1, 1]), .inr (6, [0, 0, 0, 0, 0, 0, 0, 0]), .inl (0, 4, []), .inl (0, 6, []), .inr (2, [0, 0, 0, 0, 10, 11, 12, 13, 1, 1, 1]), .inl (0, 16, []), .inl (0, 16, []), .inl (0, 16, []), .inl (0, 16, []), .inr (1, [0, 0, 0, 0, 15, 16, 0, 0, 1, 17]), .inl (1, 5, []), .inl (1, 5, []), .inl (0, 76, []), .inr (8, [19, 0]), .inl (0, 7, []), .inl (2, 3, [35, 37, 39]), .inl (3, 7, [41, 43, 45, 47, 49, 51, 53]), .inr (0, [23, 0]), .inl (0, 12, []), .inr (5, [25, 26, 27, 0, 0, 0, 0, 0, 0, 1, 1, 1, 1, 1]), .inr (6, [0, 0, 0, 0, 0, 0, 0, 0]), .inl (0, 4, []), .inl (0, 6, []), .inr (2, [0, 0, 0, 0, 29, 30, 31, 32, 1, 1, 1]), .inl (0, 16, []), .inl (0, 16, []), .inl (0, 16, []), .inl (0, 16, []), .inr (9, [34, 35, 36, 0, 0, 0]), .inl (0, 1000, []), .inl (0, 10010, []), .inl (0, 2048, []), .inr (3, [0, 38, 0, 0]), .inl (0, 16, []), .inr (3, [0, 40, 0, 0]), .inl (0, 16, []), .inr (3, [0, 42, 0, 0]), .inl (0, 16, []), .inr (4, [44, 0, 0, 0]), .inl (0, 64, []), .inr (4, [46, 0, 0, 0]), .inl (0, 64, []), .inr (4, [48, 0, 0, 0]), .inl (0, 64, []), .inr (4, [50, 0, 0, 0]), .inl (0, 64, []), .inr (4, [52, 0, 0, 0]), .inl (0, 64, []), .inr (4, [54, 0, 0, 0]), .inl (0, 64, []), .inr (4, [56, 0, 0, 0]), .inl (0, 64, []), .inr (11, [58, 59, 0, 0, 0, 0, 0, 0, 0, 0, 0, 0, 0, 0, 0, 0, 0, 0, 0, 0, 0, 0, 60, 61, 62, 63, 64, 65, 66, 67, 0, 0, 68, 0, 69]), .inl (1, 481, []), .inl (1, 481, []), .inl (0, 16, []), .inl (0, 16, []), .inl (0, 3, []), .inl (0, 4, []), .inl (0, 80, []), .inl (0, 80, []), .inl (1, 17017, []), .inl (0, 1000, []), .inl (0, 13, []), .inl (1, 481, [])]
def vg_shb : List vg_C → Bool
  | [] => true
  | .inl (t, _, _) :: r => Nat.ble t 3 && vg_shb r
  | .inr _ :: r => vg_shb r
theorem vg_shb_go : ∀ (sh : List vg_C), vg_shb sh = true → ∀ r t n rs, vg_nth sh r = some (.inl (t + 2, n, rs)) → t = 0 ∨ t = 1
  | [], _, r, t, n, rs, h => by cases h
  | .inl (t0, n0, r0) :: l, hb, 0, t, n, rs, h => by
    simp only [vg_shb, Bool.and_eq_true] at hb
    have := Nat.le_of_ble_eq_true hb.1
    simp only [vg_nth, Option.some.injEq, Sum.inl.injEq, Prod.mk.injEq] at h
    omega
  | .inr x :: l, hb, 0, t, n, rs, h => by cases h
  | .inl (t0, n0, r0) :: l, hb, r + 1, t, n, rs, h => by
    simp only [vg_shb, Bool.and_eq_true] at hb
    exact vg_shb_go l hb.2 r t n rs h
  | .inr x :: l, hb, r + 1, t, n, rs, h => vg_shb_go l hb r t n rs h
theorem vg_sh_ok : ∀ r t n rs, vg_nth vg_sh r = some (.inl (t + 2, n, rs)) → t = 0 ∨ t = 1 := vg_shb_go vg_sh (by decide +kernel)
/-! numbers -/
theorem vg_add {x y v : Int32} (e : v = x + y) (h1 : -2147483648 ≤ x.toInt + y.toInt) (h2 : x.toInt + y.toInt ≤ 2147483647) : v.toInt = x.toInt + y.toInt := by
  rw [e, Int32.toInt_add]
  simp only [Int.bmod]
  omega
theorem vg_sub {x y v : Int32} (e : v = x - y) (h1 : -2147483648 ≤ x.toInt - y.toInt) (h2 : x.toInt - y.toInt ≤ 2147483647) : v.toInt = x.toInt - y.toInt := by
  rw [e, Int32.toInt_sub]
  simp only [Int.bmod]
  omega
theorem vg_mul {x y v : Int32} (e : v = x * y) (h1 : -2147483648 ≤ x.toInt * y.toInt) (h2 : x.toInt * y.toInt ≤ 2147483647) : v.toInt = x.toInt * y.toInt := by
  rw [e, Int32.toInt_mul]
  generalize x.toInt * y.toInt = z at h1 h2
  simp only [Int.bmod]
  omega
theorem vg_and {x y v : Int32} (e : v = x &&& y) (h : 0 ≤ y.toInt) : 0 ≤ v.toInt ∧ v.toInt ≤ y.toInt := by
  subst e
  have hy : y.toBitVec.msb = false := by
    rw [BitVec.msb_eq_false_iff_two_mul_lt]
    have h2 : y.toInt = y.toBitVec.toInt := rfl
    rw [h2, BitVec.toInt_eq_toNat_cond] at h
    split at h
    · assumption
    · have := y.toBitVec.isLt
      omega
  have hle : (x &&& y).toBitVec.toNat ≤ y.toBitVec.toNat := by
    show (x.toBitVec &&& y.toBitVec).toNat ≤ _
    rw [BitVec.toNat_and]
    exact Nat.and_le_right
  have hz : (x &&& y).toBitVec.msb = false := by
    rw [BitVec.msb_eq_false_iff_two_mul_lt] at hy ⊢
    omega
  have e1 : (x &&& y).toInt = ((x &&& y).toBitVec.toNat : Int) := by
    show (x &&& y).toBitVec.toInt = _
    exact BitVec.toInt_eq_toNat_of_msb hz
  have e2 : y.toInt = (y.toBitVec.toNat : Int) := by
    show y.toBitVec.toInt = _
    exact BitVec.toInt_eq_toNat_of_msb hy
  rw [e1, e2]
  omega
theorem vg_rng (x : Int32) : -2147483648 ≤ x.toInt ∧ x.toInt ≤ 2147483647 := by
  have h1 := Int32.le_toInt x
  have h2 := Int32.toInt_lt x
  omega
theorem vg_div {x y v : Int32} (e : v = x / y) (hx : 0 ≤ x.toInt) (hy : 0 < y.toInt) : v.toInt = x.toInt / y.toInt := by
  have h2 := vg_rng x
  rw [e, Int32.toInt_div, Int.tdiv_eq_ediv_of_nonneg hx]
  have h3 : x.toInt / y.toInt ≤ x.toInt := Int.ediv_le_self _ hx
  have h4 : 0 ≤ x.toInt / y.toInt := Int.ediv_nonneg hx (by omega)
  generalize x.toInt / y.toInt = z at h3 h4
  simp only [Int.bmod]
  omega
theorem vg_rem {x y v : Int32} (e : v = x - x / y * y) (hx : 0 ≤ x.toInt) (hy : 0 < y.toInt) : v.toInt = x.toInt % y.toInt ∧ 0 ≤ v.toInt ∧ v.toInt < y.toInt := by
  have h2 := vg_rng x
  have hd := vg_div (v := x / y) rfl hx hy
  have hem := Int.emod_add_mul_ediv x.toInt y.toInt
  have hm0 := Int.emod_nonneg x.toInt (by omega : y.toInt ≠ 0)
  have hm1 := Int.emod_lt_of_pos x.toInt hy
  have h5 : 0 ≤ x.toInt / y.toInt := Int.ediv_nonneg hx (by omega)
  have h6 : x.toInt / y.toInt * y.toInt = y.toInt * (x.toInt / y.toInt) := Int.mul_comm _ _
  have hp : 0 ≤ x.toInt / y.toInt * y.toInt := Int.mul_nonneg h5 (by omega)
  have hm := vg_mul (x := x / y) (y := y) (v := x / y * y) rfl (by rw [hd]; omega) (by rw [hd]; omega)
  rw [hd] at hm
  have hs := vg_sub (x := x) (y := x / y * y) (v := v) e (by rw [hm]; omega) (by rw [hm]; omega)
  rw [hs, hm]
  refine ⟨by omega, by omega, by omega⟩
theorem vg_l2i {x : Int64} {v : Int32} (e : v = x.toInt32) (h1 : -2147483648 ≤ x.toInt) (h2 : x.toInt ≤ 2147483647) : v.toInt = x.toInt := by
  rw [e, Int64.toInt_toInt32]
  simp only [Int.bmod]
  omega
theorem vg_i2l {x : Int32} {v : Int64} (e : v = x.toInt64) : v.toInt = x.toInt := by rw [e, Int32.toInt_toInt64]
theorem vg_ladd {x y v : Int64} (e : v = x + y) (h1 : -9223372036854775808 ≤ x.toInt + y.toInt) (h2 : x.toInt + y.toInt ≤ 9223372036854775807) : v.toInt = x.toInt + y.toInt := by
  rw [e, Int64.toInt_add]
  simp only [Int.bmod]
  omega
theorem vg_eqi {x y : Int32} (h : x.toInt = y.toInt) : x = y := Int32.toInt_inj.mp h
theorem vg_cn (x : Int32) : (x.toNatClampNeg : Int) = if 0 ≤ x.toInt then x.toInt else 0 := by
  have : x.toNatClampNeg = x.toInt.toNat := rfl
  split <;> omega
theorem vg_01 {x : Int32} (h1 : 0 ≤ x.toInt) (h2 : x.toInt ≤ 1) : x = 0 ∨ x = 1 := by
  rcases (show x.toInt = 0 ∨ x.toInt = 1 by omega) with h | h
  · exact Or.inl (vg_eqi (by rw [h]; rfl))
  · exact Or.inr (vg_eqi (by rw [h]; rfl))
theorem vg_of01 {x : Int32} (h : x = 0 ∨ x = 1) : 0 ≤ x.toInt ∧ x.toInt ≤ 1 := by
  rcases h with rfl | rfl <;> decide
def vg_cons : List (Nat × Nat × Int × Int) := [(0, 2, 0, 3), (1, 3, 1, 1000), (4, 1, 1, 4), (4, 2, 1, 5000), (4, 3, 2, 17), (4, 4, 1, 60000), (4, 5, 0, 1), (4, 6, 0, 5000), (23, 1, 1, 4), (23, 2, 1, 5000), (23, 3, 2, 17), (23, 4, 1, 60000), (23, 5, 0, 1), (23, 6, 0, 5000), (7, 0, 1, 16), (26, 0, 1, 16), (12, 0, 1, 5), (12, 1, 1, 16), (12, 2, 8, 32), (20, 1, 0, 12), (41, 2, 0, 48), (43, 2, 0, 48), (45, 2, 0, 48), (47, 2, 0, 48), (49, 2, 0, 48), (51, 2, 0, 48), (53, 2, 0, 48), (55, 6, 1, 1000), (55, 8, 1, 4), (55, 10, 2, 17), (55, 12, 0, 5000), (55, 16, 1, 5), (55, 17, 1, 16), (55, 20, 0, 3), (55, 33, 0, 12)]
/-- how many elements the reference has -/
def vg_me (σ : vg_S) : Int32 := if (σ.1 55 7).toInt = 2 then (σ.1 55 10 - Int32.ofInt 1) * ((Int32.ofInt 1 <<< (σ.1 55 8 &&& (31 : Int32))) - Int32.ofInt 1) else σ.1 55 10 - Int32.ofInt 1
def Iv (σ : vg_S) : Prop := (∀ q ∈ vg_cons, q.2.2.1 ≤ (σ.1 q.1 q.2.1).toInt ∧ (σ.1 q.1 q.2.1).toInt ≤ q.2.2.2) ∧ 1 ≤ (vg_me σ).toInt ∧ (vg_me σ).toInt ≤ 16
theorem Iv.at {σ : vg_S} (h : Iv σ) (n : Nat) {q : Nat × Nat × Int × Int} (hq : vg_nth vg_cons n = some q) : q.2.2.1 ≤ (σ.1 q.1 q.2.1).toInt ∧ (σ.1 q.1 q.2.1).toInt ≤ q.2.2.2 := h.1 q (by rw [vg_nth_eq] at hq; exact List.mem_of_getElem? hq)
/-- slots that no word speaks of -/
def vg_fr (k i : Nat) : Bool := vg_cons.all (fun q => !(Nat.beq q.1 k && Nat.beq q.2.1 i)) && !(Nat.beq k 55 && Nat.beq i 7)
/-- rows that no word speaks of -/
def vg_fa (k : Nat) : Bool := vg_cons.all (fun q => !(Nat.beq q.1 k)) && !(Nat.beq k 55)
theorem vg_me_eq {σ σ' : vg_S} (h7 : σ'.1 55 7 = σ.1 55 7) (h8 : σ'.1 55 8 = σ.1 55 8) (h10 : σ'.1 55 10 = σ.1 55 10) : vg_me σ' = vg_me σ := by
  unfold vg_me
  rw [h7, h8, h10]
theorem vg_beq {a b : Nat} (h : a ≠ b) : Nat.beq a b = false := by
  cases hb : Nat.beq a b with
  | false => rfl
  | true => exact (h (Nat.eq_of_beq_eq_true hb)).elim
theorem vg_u1_at {σ : vg_S} {k i : Nat} {x : Int32} {a b : Nat} (h : ¬ (a = k ∧ b = i)) : (vg_u1 σ k i x).1 a b = σ.1 a b := by
  simp only [vg_u1, vg_w1, upd]
  split
  · rename_i ha
    subst ha
    show (if b = i then x else σ.1 a b) = _
    rw [if_neg (fun hb => h ⟨rfl, hb⟩)]
  · rfl
theorem vg_u1_self {σ : vg_S} {k i : Nat} {x : Int32} : (vg_u1 σ k i x).1 k i = x := by simp [vg_u1, vg_w1, upd]
theorem vg_u2_at {σ : vg_S} {k i : Nat} {x : Int64} {a b : Nat} (h : ¬ (a = k ∧ b = i)) : (vg_u2 σ k i x).2 a b = σ.2 a b := by
  simp only [vg_u2, vg_w2, vp_updL]
  split
  · rename_i ha
    subst ha
    show (if b = i then x else σ.2 a b) = _
    rw [if_neg (fun hb => h ⟨rfl, hb⟩)]
  · rfl
theorem vg_u2_self {σ : vg_S} {k i : Nat} {x : Int64} : (vg_u2 σ k i x).2 k i = x := by simp [vg_u2, vg_w2, vp_updL]
theorem vg_u1_ne {σ : vg_S} {k i : Nat} {x : Int32} {a : Nat} (h : a ≠ k) : (vg_u1 σ k i x).1 a = σ.1 a := by simp only [vg_u1, vg_w1]; rw [if_neg h]
theorem vg_u2_1 {σ : vg_S} {k i : Nat} {x : Int64} : (vg_u2 σ k i x).1 = σ.1 := rfl
theorem vg_w1_at {σ : vg_S} {k : Nat} {f : Nat → Int32} {a : Nat} (h : a ≠ k) : (vg_w1 σ k f).1 a = σ.1 a := by simp only [vg_w1]; rw [if_neg h]
theorem Iv.of {σ σ' : vg_S} (h : Iv σ) (he : ∀ q ∈ vg_cons, σ'.1 q.1 q.2.1 = σ.1 q.1 q.2.1) (h7 : σ'.1 55 7 = σ.1 55 7) : Iv σ' := by
  refine ⟨fun q hq => by rw [he q hq]; exact h.1 q hq, ?_⟩
  rw [vg_me_eq h7 (he (55, 8, 1, 4) (by decide)) (he (55, 10, 2, 17) (by decide))]
  exact h.2
theorem Iv.u1 {σ σ' : vg_S} {k i : Nat} {x : Int32} (h : Iv σ) (e : σ' = vg_u1 σ k i x) (hf : vg_fr k i = true) : Iv σ' := by
  subst e
  simp only [vg_fr, Bool.and_eq_true, List.all_eq_true, Bool.not_eq_true', Bool.and_eq_false_iff] at hf
  refine h.of (fun q hq => vg_u1_at ?_) (vg_u1_at ?_)
  · rintro ⟨h1, h2⟩
    rcases hf.1 q hq with h3 | h3
    · rw [h1] at h3; simp at h3
    · rw [h2] at h3; simp at h3
  · rintro ⟨rfl, rfl⟩
    rcases hf.2 with h3 | h3 <;> simp at h3
theorem Iv.a1 {σ σ' : vg_S} {k i : Nat} {x : Int32} (h : Iv σ) (e : σ' = vg_u1 σ k i x) (hf : vg_fa k = true) : Iv σ' := by
  subst e
  simp only [vg_fa, Bool.and_eq_true, List.all_eq_true, Bool.not_eq_true'] at hf
  refine h.of (fun q hq => vg_u1_at ?_) (vg_u1_at ?_)
  · rintro ⟨h1, h2⟩
    have h3 := hf.1 q hq
    rw [h1] at h3; simp at h3
  · rintro ⟨rfl, rfl⟩
    have h3 := hf.2
    simp at h3
theorem Iv.w1 {σ σ' : vg_S} {k : Nat} {f : Nat → Int32} (h : Iv σ) (e : σ' = vg_w1 σ k f) (hf : vg_fa k = true) : Iv σ' := by
  subst e
  simp only [vg_fa, Bool.and_eq_true, List.all_eq_true, Bool.not_eq_true'] at hf
  refine h.of (fun q hq => ?_) ?_
  · have h3 := hf.1 q hq
    simp only [vg_w1]
    rw [if_neg]
    intro h1
    rw [h1] at h3; simp at h3
  · have h3 := hf.2
    simp only [vg_w1]
    rw [if_neg]
    intro h1
    rw [← h1] at h3; simp at h3
theorem Iv.u2 {σ σ' : vg_S} {k i : Nat} {x : Int64} (h : Iv σ) (e : σ' = vg_u2 σ k i x) : Iv σ' := by
  subst e
  exact h.of (fun q hq => rfl) rfl
/-- a slot with a word (not the reference's loop, order, levels) gets a number that keeps it -/
def vg_cb (k i : Nat) (lo hi : Int) : Bool := vg_cons.all (fun q => !(Nat.beq q.1 k && Nat.beq q.2.1 i) || (decide (q.2.2.1 = lo) && decide (q.2.2.2 = hi))) && !(Nat.beq k 55 && (Nat.beq i 7 || Nat.beq i 8 || Nat.beq i 10))
theorem Iv.c1 {σ σ' : vg_S} {k i : Nat} {x : Int32} {lo hi : Int} (h : Iv σ) (e : σ' = vg_u1 σ k i x) (hf : vg_cb k i lo hi = true) (h1 : lo ≤ x.toInt) (h2 : x.toInt ≤ hi) : Iv σ' := by
  subst e
  simp only [vg_cb, Bool.and_eq_true, List.all_eq_true, Bool.not_eq_true', Bool.or_eq_true, decide_eq_true_eq, Bool.and_eq_false_iff, Bool.or_eq_false_iff] at hf
  refine ⟨fun q hq => ?_, ?_⟩
  · by_cases hq2 : q.1 = k ∧ q.2.1 = i
    · rcases hf.1 q hq with h3 | h3
      · rcases h3 with h3 | h3
        · rw [hq2.1] at h3; simp at h3
        · rw [hq2.2] at h3; simp at h3
      · rw [hq2.1, hq2.2, vg_u1_self, h3.1, h3.2]
        exact ⟨h1, h2⟩
    · rw [vg_u1_at hq2]
      exact h.1 q hq
  · have ne : ∀ j, (j = 7 ∨ j = 8 ∨ j = 10) → ¬ (55 = k ∧ j = i) := by
      rintro j hj ⟨rfl, rfl⟩
      rcases hf.2 with h3 | h3
      · simp at h3
      · rcases hj with rfl | rfl | rfl <;> simp at h3
    rw [vg_me_eq (vg_u1_at (ne 7 (by omega))) (vg_u1_at (ne 8 (by omega))) (vg_u1_at (ne 10 (by omega)))]
    exact h.2
theorem Iv_0_2 {σ : vg_S} (h : Iv σ) : 0 ≤ (σ.1 0 2).toInt ∧ (σ.1 0 2).toInt ≤ 3 := h.at 0 rfl
theorem Iv_1_3 {σ : vg_S} (h : Iv σ) : 1 ≤ (σ.1 1 3).toInt ∧ (σ.1 1 3).toInt ≤ 1000 := h.at 1 rfl
theorem Iv_4_1 {σ : vg_S} (h : Iv σ) : 1 ≤ (σ.1 4 1).toInt ∧ (σ.1 4 1).toInt ≤ 4 := h.at 2 rfl
theorem Iv_4_2 {σ : vg_S} (h : Iv σ) : 1 ≤ (σ.1 4 2).toInt ∧ (σ.1 4 2).toInt ≤ 5000 := h.at 3 rfl
theorem Iv_4_3 {σ : vg_S} (h : Iv σ) : 2 ≤ (σ.1 4 3).toInt ∧ (σ.1 4 3).toInt ≤ 17 := h.at 4 rfl
theorem Iv_4_4 {σ : vg_S} (h : Iv σ) : 1 ≤ (σ.1 4 4).toInt ∧ (σ.1 4 4).toInt ≤ 60000 := h.at 5 rfl
theorem Iv_4_5 {σ : vg_S} (h : Iv σ) : 0 ≤ (σ.1 4 5).toInt ∧ (σ.1 4 5).toInt ≤ 1 := h.at 6 rfl
theorem Iv_4_6 {σ : vg_S} (h : Iv σ) : 0 ≤ (σ.1 4 6).toInt ∧ (σ.1 4 6).toInt ≤ 5000 := h.at 7 rfl
theorem Iv_23_1 {σ : vg_S} (h : Iv σ) : 1 ≤ (σ.1 23 1).toInt ∧ (σ.1 23 1).toInt ≤ 4 := h.at 8 rfl
theorem Iv_23_2 {σ : vg_S} (h : Iv σ) : 1 ≤ (σ.1 23 2).toInt ∧ (σ.1 23 2).toInt ≤ 5000 := h.at 9 rfl
theorem Iv_23_3 {σ : vg_S} (h : Iv σ) : 2 ≤ (σ.1 23 3).toInt ∧ (σ.1 23 3).toInt ≤ 17 := h.at 10 rfl
theorem Iv_23_4 {σ : vg_S} (h : Iv σ) : 1 ≤ (σ.1 23 4).toInt ∧ (σ.1 23 4).toInt ≤ 60000 := h.at 11 rfl
theorem Iv_23_5 {σ : vg_S} (h : Iv σ) : 0 ≤ (σ.1 23 5).toInt ∧ (σ.1 23 5).toInt ≤ 1 := h.at 12 rfl
theorem Iv_23_6 {σ : vg_S} (h : Iv σ) : 0 ≤ (σ.1 23 6).toInt ∧ (σ.1 23 6).toInt ≤ 5000 := h.at 13 rfl
theorem Iv_7_0 {σ : vg_S} (h : Iv σ) : 1 ≤ (σ.1 7 0).toInt ∧ (σ.1 7 0).toInt ≤ 16 := h.at 14 rfl
theorem Iv_26_0 {σ : vg_S} (h : Iv σ) : 1 ≤ (σ.1 26 0).toInt ∧ (σ.1 26 0).toInt ≤ 16 := h.at 15 rfl
theorem Iv_12_0 {σ : vg_S} (h : Iv σ) : 1 ≤ (σ.1 12 0).toInt ∧ (σ.1 12 0).toInt ≤ 5 := h.at 16 rfl
theorem Iv_12_1 {σ : vg_S} (h : Iv σ) : 1 ≤ (σ.1 12 1).toInt ∧ (σ.1 12 1).toInt ≤ 16 := h.at 17 rfl
theorem Iv_12_2 {σ : vg_S} (h : Iv σ) : 8 ≤ (σ.1 12 2).toInt ∧ (σ.1 12 2).toInt ≤ 32 := h.at 18 rfl
theorem Iv_20_1 {σ : vg_S} (h : Iv σ) : 0 ≤ (σ.1 20 1).toInt ∧ (σ.1 20 1).toInt ≤ 12 := h.at 19 rfl
theorem Iv_41_2 {σ : vg_S} (h : Iv σ) : 0 ≤ (σ.1 41 2).toInt ∧ (σ.1 41 2).toInt ≤ 48 := h.at 20 rfl
theorem Iv_43_2 {σ : vg_S} (h : Iv σ) : 0 ≤ (σ.1 43 2).toInt ∧ (σ.1 43 2).toInt ≤ 48 := h.at 21 rfl
theorem Iv_45_2 {σ : vg_S} (h : Iv σ) : 0 ≤ (σ.1 45 2).toInt ∧ (σ.1 45 2).toInt ≤ 48 := h.at 22 rfl
theorem Iv_47_2 {σ : vg_S} (h : Iv σ) : 0 ≤ (σ.1 47 2).toInt ∧ (σ.1 47 2).toInt ≤ 48 := h.at 23 rfl
theorem Iv_49_2 {σ : vg_S} (h : Iv σ) : 0 ≤ (σ.1 49 2).toInt ∧ (σ.1 49 2).toInt ≤ 48 := h.at 24 rfl
theorem Iv_51_2 {σ : vg_S} (h : Iv σ) : 0 ≤ (σ.1 51 2).toInt ∧ (σ.1 51 2).toInt ≤ 48 := h.at 25 rfl
theorem Iv_53_2 {σ : vg_S} (h : Iv σ) : 0 ≤ (σ.1 53 2).toInt ∧ (σ.1 53 2).toInt ≤ 48 := h.at 26 rfl
theorem Iv_55_6 {σ : vg_S} (h : Iv σ) : 1 ≤ (σ.1 55 6).toInt ∧ (σ.1 55 6).toInt ≤ 1000 := h.at 27 rfl
theorem Iv_55_8 {σ : vg_S} (h : Iv σ) : 1 ≤ (σ.1 55 8).toInt ∧ (σ.1 55 8).toInt ≤ 4 := h.at 28 rfl
theorem Iv_55_10 {σ : vg_S} (h : Iv σ) : 2 ≤ (σ.1 55 10).toInt ∧ (σ.1 55 10).toInt ≤ 17 := h.at 29 rfl
theorem Iv_55_12 {σ : vg_S} (h : Iv σ) : 0 ≤ (σ.1 55 12).toInt ∧ (σ.1 55 12).toInt ≤ 5000 := h.at 30 rfl
theorem Iv_55_16 {σ : vg_S} (h : Iv σ) : 1 ≤ (σ.1 55 16).toInt ∧ (σ.1 55 16).toInt ≤ 5 := h.at 31 rfl
theorem Iv_55_17 {σ : vg_S} (h : Iv σ) : 1 ≤ (σ.1 55 17).toInt ∧ (σ.1 55 17).toInt ≤ 16 := h.at 32 rfl
theorem Iv_55_20 {σ : vg_S} (h : Iv σ) : 0 ≤ (σ.1 55 20).toInt ∧ (σ.1 55 20).toInt ≤ 3 := h.at 33 rfl
theorem Iv_55_33 {σ : vg_S} (h : Iv σ) : 0 ≤ (σ.1 55 33).toInt ∧ (σ.1 55 33).toInt ≤ 12 := h.at 34 rfl
/-- ints that most calls keep -/
def vg_kp (k i : Nat) : Bool := match k with
  | 0 => Nat.beq i 1 || Nat.beq i 2
  | 4 => Nat.beq i 0 || Nat.beq i 1 || Nat.beq i 2 || Nat.beq i 3 || Nat.beq i 4 || Nat.beq i 5 || Nat.beq i 6 || Nat.beq i 7
  | 7 => Nat.beq i 0 || Nat.beq i 1
  | 8 => true
  | 12 => Nat.beq i 0 || Nat.beq i 1 || Nat.beq i 2 || Nat.beq i 3
  | 16 => Nat.beq i 1
  | 17 => true
  | 20 => Nat.beq i 1
  | 21 => true
  | 34 => true
  | 35 => Nat.beq i 0
  | 37 => Nat.beq i 0
  | 39 => Nat.beq i 0
  | 55 => Nat.beq i 7 || Nat.beq i 8 || Nat.beq i 9 || Nat.beq i 10 || Nat.beq i 14 || Nat.beq i 16 || Nat.beq i 17 || Nat.beq i 18 || Nat.beq i 19 || Nat.beq i 20 || Nat.beq i 21 || Nat.beq i 33
  | 59 => true
  | 60 => true
  | 61 => true
  | 66 => true
  | _ => false
/-- longs that most calls keep: the reference's clock, and it in the copies -/
def vg_kq (k i : Nat) : Bool := Nat.beq i 0 && (Nat.beq k 56 || Nat.beq k 57 || Nat.beq k 67)
def vg_q1 (k i : Nat) : Bool := Nat.beq i 0 && Nat.beq k 56
def vg_q2 (k i : Nat) : Bool := Nat.beq i 0 && (Nat.beq k 57 || Nat.beq k 67)
def vg_kr (k i : Nat) : Bool := !(Nat.beq k 34) && vg_kp k i
def vg_k0 (_ _ : Nat) : Bool := false
def Kx (P Q : Nat → Nat → Bool) (σ σ' : vg_S) : Prop := (∀ k i, P k i = true → σ'.1 k i = σ.1 k i) ∧ ∀ k i, Q k i = true → σ'.2 k i = σ.2 k i
abbrev Kp : vg_S → vg_S → Prop := Kx vg_kp vg_kq
abbrev Kr : vg_S → vg_S → Prop := Kx vg_kr vg_kq
abbrev Ks : vg_S → vg_S → Prop := Kx vg_k0 vg_kq
abbrev Kt : vg_S → vg_S → Prop := Kx vg_kp vg_q1
abbrev Ku : vg_S → vg_S → Prop := Kx vg_k0 vg_q1
abbrev Kg : vg_S → vg_S → Prop := Kx vg_kp vg_q2
theorem Kx.rf {P Q : Nat → Nat → Bool} {σ : vg_S} : Kx P Q σ σ := ⟨fun _ _ _ => rfl, fun _ _ _ => rfl⟩
theorem Kx.tr {P Q : Nat → Nat → Bool} {σ σ' σ'' : vg_S} (h : Kx P Q σ σ') (h2 : Kx P Q σ' σ'') : Kx P Q σ σ'' := ⟨fun k i hk => (h2.1 k i hk).trans (h.1 k i hk), fun k i hk => (h2.2 k i hk).trans (h.2 k i hk)⟩
theorem Kx.u1 {P Q : Nat → Nat → Bool} {σ σ' σ'' : vg_S} {k i : Nat} {x : Int32} (h : Kx P Q σ σ') (e : σ'' = vg_u1 σ' k i x) (hk : P k i = false) : Kx P Q σ σ'' := by
  subst e
  refine ⟨fun a b hab => ?_, h.2⟩
  rw [vg_u1_at (by rintro ⟨rfl, rfl⟩; rw [hab] at hk; cases hk)]
  exact h.1 a b hab
theorem Kx.w1 {P Q : Nat → Nat → Bool} {σ σ' σ'' : vg_S} {k : Nat} {f : Nat → Int32} (h : Kx P Q σ σ') (e : σ'' = vg_w1 σ' k f) (hk : ∀ i, P k i = false) : Kx P Q σ σ'' := by
  subst e
  refine ⟨fun a b hab => ?_, h.2⟩
  simp only [vg_w1]
  rw [if_neg (by rintro rfl; rw [hk] at hab; cases hab)]
  exact h.1 a b hab
theorem Kx.u2 {P Q : Nat → Nat → Bool} {σ σ' σ'' : vg_S} {k i : Nat} {x : Int64} (h : Kx P Q σ σ') (e : σ'' = vg_u2 σ' k i x) (hk : Q k i = false) : Kx P Q σ σ'' := by
  subst e
  refine ⟨h.1, fun a b hab => ?_⟩
  rw [vg_u2_at (by rintro ⟨rfl, rfl⟩; rw [hab] at hk; cases hk)]
  exact h.2 a b hab
theorem Kx.wk {P Q P' Q' : Nat → Nat → Bool} {σ σ' : vg_S} (h : Kx P Q σ σ') (hP : ∀ k i, P' k i = true → P k i = true) (hQ : ∀ k i, Q' k i = true → Q k i = true) : Kx P' Q' σ σ' := ⟨fun k i hk => h.1 k i (hP k i hk), fun k i hk => h.2 k i (hQ k i hk)⟩
theorem vg_kr_kp (k i : Nat) (h : vg_kr k i = true) : vg_kp k i = true := by
  simp only [vg_kr, Bool.and_eq_true] at h
  exact h.2
theorem vg_q1_kq (k i : Nat) (h : vg_q1 k i = true) : vg_kq k i = true := by
  simp only [vg_q1, vg_kq, Bool.and_eq_true, Bool.or_eq_true] at h ⊢
  exact ⟨h.1, Or.inl (Or.inl h.2)⟩
theorem vg_q2_kq (k i : Nat) (h : vg_q2 k i = true) : vg_kq k i = true := by
  simp only [vg_q2, vg_kq, Bool.and_eq_true, Bool.or_eq_true] at h ⊢
  exact ⟨h.1, h.2.elim (fun q => Or.inl (Or.inr q)) Or.inr⟩
theorem Kx.pr {σ σ' : vg_S} (h : Kp σ σ') : Kr σ σ' := h.wk vg_kr_kp (fun _ _ q => q)
theorem Kx.ps {Q : Nat → Nat → Bool} {P : Nat → Nat → Bool} {σ σ' : vg_S} (h : Kx P Q σ σ') : Kx vg_k0 Q σ σ' := h.wk (fun _ _ q => by cases q) (fun _ _ q => q)
theorem Kx.pt {P : Nat → Nat → Bool} {σ σ' : vg_S} (h : Kx P vg_kq σ σ') : Kx P vg_q1 σ σ' := h.wk (fun _ _ q => q) vg_q1_kq
theorem Kx.pg {P : Nat → Nat → Bool} {σ σ' : vg_S} (h : Kx P vg_kq σ σ') : Kx P vg_q2 σ σ' := h.wk (fun _ _ q => q) vg_q2_kq
theorem vg_kq_pos {k : Nat} {x : Int32} (h : 0 < x.toInt) : vg_kq k x.toNatClampNeg = false ∧ vg_q1 k x.toNatClampNeg = false ∧ vg_q2 k x.toNatClampNeg = false := by
  have : x.toNatClampNeg = x.toInt.toNat := rfl
  have hb := vg_beq (a := x.toNatClampNeg) (b := 0) (by omega)
  refine ⟨?_, ?_, ?_⟩
  · simp only [vg_kq, hb, Bool.false_and]
  · simp only [vg_q1, hb, Bool.false_and]
  · simp only [vg_q2, hb, Bool.false_and]
theorem vg_kq_no {k i : Nat} (h : Nat.beq k 56 = false ∧ Nat.beq k 57 = false ∧ Nat.beq k 67 = false) : vg_kq k i = false ∧ vg_q1 k i = false ∧ vg_q2 k i = false := by
  refine ⟨?_, ?_, ?_⟩
  · simp [vg_kq, h.1, h.2.1, h.2.2]
  · simp [vg_q1, h.1]
  · simp [vg_q2, h.2.1, h.2.2]
theorem vg_shl1 {x y v : Int32} (e : v = x <<< (y &&& 31)) (hx : x.toInt = 1) (h1 : 1 ≤ y.toInt) (h2 : y.toInt ≤ 4) : 2 ≤ v.toInt ∧ v.toInt ≤ 16 ∧ ((y.toInt = 1 ∧ v.toInt = 2) ∨ (y.toInt = 2 ∧ v.toInt = 4) ∨ (y.toInt = 3 ∧ v.toInt = 8) ∨ (y.toInt = 4 ∧ v.toInt = 16)) := by
  have hx1 : x = 1 := vg_eqi (by rw [hx]; rfl)
  subst hx1
  rcases (show y.toInt = 1 ∨ y.toInt = 2 ∨ y.toInt = 3 ∨ y.toInt = 4 by omega) with h | h | h | h
  · have : y = 1 := vg_eqi (by rw [h]; rfl)
    subst this
    subst e
    decide
  · have : y = 2 := vg_eqi (by rw [h]; rfl)
    subst this
    subst e
    decide
  · have : y = 3 := vg_eqi (by rw [h]; rfl)
    subst this
    subst e
    decide
  · have : y = 4 := vg_eqi (by rw [h]; rfl)
    subst this
    subst e
    decide
theorem vg_mulr {x y v : Int32} (e : v = x * y) (h1 : 1 ≤ x.toInt) (h2 : x.toInt ≤ 16) (h3 : 1 ≤ y.toInt) (h4 : y.toInt ≤ 15) : v.toInt = x.toInt * y.toInt ∧ 1 ≤ v.toInt ∧ v.toInt ≤ 240 := by
  have a1 : 1 * 1 ≤ x.toInt * y.toInt := Int.mul_le_mul h1 h3 (by omega) (by omega)
  have a2 : x.toInt * y.toInt ≤ 16 * 15 := Int.mul_le_mul h2 h4 (by omega) (by omega)
  have := vg_mul e (by omega) (by omega)
  omega
theorem vg_xor_sign {x y v : Int32} (e : v = x ^^^ y) (hy : 0 ≤ y.toInt) : 0 ≤ v.toInt ↔ 0 ≤ x.toInt := by
  subst e
  have key : ∀ z : Int32, 0 ≤ z.toInt ↔ z.toBitVec.msb = false := by
    intro z
    show 0 ≤ z.toBitVec.toInt ↔ _
    rw [BitVec.toInt_eq_msb_cond]
    have := z.toBitVec.isLt
    cases hm : z.toBitVec.msb
    · simp
    · simp
      omega
  rw [key, key]
  rw [key] at hy
  show (x.toBitVec ^^^ y.toBitVec).msb = false ↔ _
  rw [BitVec.msb_xor, hy]
  simp
theorem vg_remn {x y v : Int32} (e : v = x - x / y * y) (hx : x.toInt < 0) (hy : 0 < y.toInt) : - y.toInt < v.toInt ∧ v.toInt ≤ 0 := by
  have h2 := vg_rng x
  have h2y := vg_rng y
  have hd : (x / y).toInt = x.toInt.tdiv y.toInt := by
    rw [Int32.toInt_div]
    have hq : x.toInt.tdiv y.toInt = - ((- x.toInt) / y.toInt) := by
      rw [← Int.tdiv_eq_ediv_of_nonneg (by omega), Int.neg_tdiv, Int.neg_neg]
    rw [hq]
    have h3 : (- x.toInt) / y.toInt ≤ - x.toInt := Int.ediv_le_self _ (by omega)
    have h4 : 0 ≤ (- x.toInt) / y.toInt := Int.ediv_nonneg (by omega) (by omega)
    generalize (- x.toInt) / y.toInt = z at h3 h4
    simp only [Int.bmod]
    omega
  have hq : x.toInt.tdiv y.toInt = - ((- x.toInt) / y.toInt) := by
    rw [← Int.tdiv_eq_ediv_of_nonneg (by omega), Int.neg_tdiv, Int.neg_neg]
  have hem := Int.emod_add_mul_ediv (- x.toInt) y.toInt
  have hm0 := Int.emod_nonneg (- x.toInt) (by omega : y.toInt ≠ 0)
  have hm1 := Int.emod_lt_of_pos (- x.toInt) hy
  have h5 : 0 ≤ (- x.toInt) / y.toInt := Int.ediv_nonneg (by omega) (by omega)
  have hp : 0 ≤ y.toInt * ((- x.toInt) / y.toInt) := Int.mul_nonneg (by omega) h5
  have hmm : (x / y).toInt * y.toInt = - (y.toInt * ((- x.toInt) / y.toInt)) := by rw [hd, hq, Int.neg_mul, Int.mul_comm]
  have hm := vg_mul (x := x / y) (y := y) (v := x / y * y) rfl (by rw [hmm]; omega) (by rw [hmm]; omega)
  rw [hmm] at hm
  have hs := vg_sub (x := x) (y := x / y * y) (v := v) e (by rw [hm]; omega) (by rw [hm]; omega)
  rw [hs, hm]
  omega
theorem vg_remx {x y v : Int32} (e : v = x - x / y * y) (hy : 0 < y.toInt) : (0 ≤ x.toInt ∧ 0 ≤ v.toInt ∧ v.toInt < y.toInt) ∨ (x.toInt < 0 ∧ - y.toInt < v.toInt ∧ v.toInt ≤ 0) := by
  by_cases hx : 0 ≤ x.toInt
  · exact Or.inl ⟨hx, (vg_rem e hx hy).2⟩
  · exact Or.inr ⟨by omega, vg_remn e (by omega) hy⟩
theorem vg_fst {σ : vg_S} {k : Nat} {i v c : Int32} (h : ∀ j : Nat, (j : Int) < i.toInt → σ.1 k j = c) (hi : 0 ≤ i.toInt) (e : v.toInt = i.toInt + 1) {j : Nat} (hj : (j : Int) < v.toInt) : (vg_u1 σ k i.toNatClampNeg c).1 k j = c := by
  have h9 : i.toNatClampNeg = i.toInt.toNat := rfl
  by_cases hji : j = i.toNatClampNeg
  · subst hji
    exact vg_u1_self
  · rw [vg_u1_at (fun q => hji q.2)]
    exact h j (by omega)
theorem vg_cells1 {σ : vg_S} {k i : Nat} {x : Int32} {B : Int} (h : ∀ j : Nat, j < 2048 → 0 ≤ (σ.1 k j).toInt ∧ (σ.1 k j).toInt ≤ B) (hx : 0 ≤ x.toInt ∧ x.toInt ≤ B + 1) (j : Nat) (hj : j < 2048) : 0 ≤ ((vg_u1 σ k i x).1 k j).toInt ∧ ((vg_u1 σ k i x).1 k j).toInt ≤ B + 1 := by
  by_cases hji : j = i
  · subst hji
    rw [vg_u1_self]
    exact hx
  · rw [vg_u1_at (fun q => hji q.2)]
    have := h j hj
    omega
theorem vg_inGW {i : Nat} {w : Cond} (h : vg_nth lw_tbl i = some w) (hg : goodWord w = true) : w ∈ vg_GW := by
  rw [vg_nth_eq] at h
  exact List.mem_filter.mpr ⟨List.mem_of_getElem? h, hg⟩
/-- of the claim's own room: a method's places hold -/
abbrev vg_Hp (G : vg_G) : Prop := ∀ i j, i < vg_sh.length → j < vg_sh.length → G.2.2 i = G.2.2 j → i = j
end
section
/-! more of numbers -/
theorem vg_mulL {x y v : Int32} {c : Int} (e : v = x * y) (hc : x.toInt = c) (h1 : -2147483648 ≤ c * y.toInt) (h2 : c * y.toInt ≤ 2147483647) : v.toInt = c * y.toInt := by
  subst hc
  exact vg_mul e h1 h2
theorem vg_mulR {x y v : Int32} {c : Int} (e : v = x * y) (hc : y.toInt = c) (h1 : -2147483648 ≤ x.toInt * c) (h2 : x.toInt * c ≤ 2147483647) : v.toInt = x.toInt * c := by
  subst hc
  exact vg_mul e h1 h2
end
section
/-! contracts -/
set_option maxRecDepth 100000 in
theorem vg_cpw_in : ∀ w ∈ vg_cpw, w ∈ vg_GW := by
  intro w hw
  simp only [vg_cpw, List.mem_cons, List.not_mem_nil, or_false] at hw
  rcases hw with rfl | rfl | rfl
  · exact vg_inGW (i := 947) rfl rfl
  · exact vg_inGW (i := 946) rfl rfl
  · exact vg_inGW (i := 88) rfl rfl
def r_J9_max_7cf53 : vg_R := ((yJ9_max_7cf53, cJ9_max_7cf53, 2, (some .int), 0, 0, 1, [], true), (fun as σ => ∃ (a1 : Int32) (a2 : Int32), as = [.int a1, .int a2] ∧ True), (fun as σ v σ' => match as, v with
  | [.int a1, .int a2], some (.int v) => σ' = σ ∧ (a1.toInt ≤ v.toInt ∧ a2.toInt ≤ v.toInt ∧ (v.toInt = a1.toInt ∨ v.toInt = a2.toInt))
  | _, _ => False))
set_option maxRecDepth 100000 in
theorem k_J9_max_7cf53 : vg_rok r_J9_max_7cf53 := ⟨vg_inGW (i := 671) rfl rfl, vg_inGW (i := 87) rfl rfl, ⟨by decide, by decide⟩, vg_mathPlain rfl (by decide), vg_inGW (i := 670) rfl rfl⟩
def r_J9_min_7cf53 : vg_R := ((yJ9_min_7cf53, cJ9_min_7cf53, 2, (some .int), 0, 0, 1, [], true), (fun as σ => ∃ (a1 : Int32) (a2 : Int32), as = [.int a1, .int a2] ∧ True), (fun as σ v σ' => match as, v with
  | [.int a1, .int a2], some (.int v) => σ' = σ ∧ (v.toInt ≤ a1.toInt ∧ v.toInt ≤ a2.toInt ∧ (v.toInt = a1.toInt ∨ v.toInt = a2.toInt))
  | _, _ => False))
set_option maxRecDepth 100000 in
theorem k_J9_min_7cf53 : vg_rok r_J9_min_7cf53 := ⟨vg_inGW (i := 640) rfl rfl, vg_inGW (i := 87) rfl rfl, ⟨by decide, by decide⟩, vg_mathPlain rfl (by decide), vg_inGW (i := 639) rfl rfl⟩
def r_J9_abs_0f7a4 : vg_R := ((yJ9_abs_0f7a4, cJ9_abs_0f7a4, 1, (some .int), 0, 0, 1, [], true), (fun as σ => ∃ (a1 : Int32), as = [.int a1] ∧ True), (fun as σ v σ' => match as, v with
  | [.int a1], some (.int v) => σ' = σ ∧ (True)
  | _, _ => False))
set_option maxRecDepth 100000 in
theorem k_J9_abs_0f7a4 : vg_rok r_J9_abs_0f7a4 := ⟨vg_inGW (i := 668) rfl rfl, vg_inGW (i := 87) rfl rfl, ⟨by decide, by decide⟩, vg_mathPlain rfl (by decide), vg_inGW (i := 667) rfl rfl⟩
def r_J9_abs_067f4 : vg_R := ((yJ9_abs_067f4, cJ9_abs_067f4, 2, (some .long), 0, 0, 2, [], true), (fun as σ => ∃ (a1 : Int64), as = [.long a1] ∧ True), (fun as σ v σ' => match as, v with
  | [.long a1], some (.long v) => σ' = σ ∧ (True)
  | _, _ => False))
set_option maxRecDepth 100000 in
theorem k_J9_abs_067f4 : vg_rok r_J9_abs_067f4 := ⟨vg_inGW (i := 717) rfl rfl, vg_inGW (i := 87) rfl rfl, ⟨by decide, by decide⟩, vg_mathPlain rfl (by decide), vg_inGW (i := 716) rfl rfl⟩
def r_J9_max_f86c9 : vg_R := ((yJ9_max_f86c9, cJ9_max_f86c9, 4, (some .long), 0, 0, 2, [], true), (fun as σ => ∃ (a1 : Int64) (a2 : Int64), as = [.long a1, .long a2] ∧ True), (fun as σ v σ' => match as, v with
  | [.long a1, .long a2], some (.long v) => σ' = σ ∧ (True)
  | _, _ => False))
set_option maxRecDepth 100000 in
theorem k_J9_max_f86c9 : vg_rok r_J9_max_f86c9 := ⟨vg_inGW (i := 720) rfl rfl, vg_inGW (i := 87) rfl rfl, ⟨by decide, by decide⟩, vg_mathPlain rfl (by decide), vg_inGW (i := 719) rfl rfl⟩
def r_J9_min_f86c9 : vg_R := ((yJ9_min_f86c9, cJ9_min_f86c9, 4, (some .long), 0, 0, 2, [], true), (fun as σ => ∃ (a1 : Int64) (a2 : Int64), as = [.long a1, .long a2] ∧ True), (fun as σ v σ' => match as, v with
  | [.long a1, .long a2], some (.long v) => σ' = σ ∧ (True)
  | _, _ => False))
set_option maxRecDepth 100000 in
theorem k_J9_min_f86c9 : vg_rok r_J9_min_f86c9 := ⟨vg_inGW (i := 1344) rfl rfl, vg_inGW (i := 87) rfl rfl, ⟨by decide, by decide⟩, vg_mathPlain rfl (by decide), vg_inGW (i := 1343) rfl rfl⟩
def r_J6_bitCount_0f7a4 : vg_R := ((yJ6_bitCount_0f7a4, cJ6_bitCount_0f7a4, 1, (some .int), 0, 0, 1, [], true), (fun as σ => ∃ (a1 : Int32), as = [.int a1] ∧ True), (fun as σ v σ' => match as, v with
  | [.int a1], some (.int v) => σ' = σ ∧ (True)
  | _, _ => False))
set_option maxRecDepth 100000 in
theorem k_J6_bitCount_0f7a4 : vg_rok r_J6_bitCount_0f7a4 := ⟨vg_inGW (i := 995) rfl rfl, vg_inGW (i := 89) rfl rfl, ⟨by decide, by decide⟩, plainFor_of_name (by decide), vg_inGW (i := 994) rfl rfl⟩
def r_J9_floorDiv_7cf53 : vg_R := ((yJ9_floorDiv_7cf53, cJ9_floorDiv_7cf53, 3, (some .int), 0, 0, 1, [], true), (fun as σ => ∃ (a1 : Int32) (a2 : Int32), as = [.int a1, .int a2] ∧ (¬ a2.toInt = 0)), (fun as σ v σ' => match as, v with
  | [.int a1, .int a2], some (.int v) => σ' = σ ∧ (True)
  | _, _ => False))
set_option maxRecDepth 100000 in
theorem k_J9_floorDiv_7cf53 : vg_rok r_J9_floorDiv_7cf53 := ⟨vg_inGW (i := 678) rfl rfl, vg_inGW (i := 87) rfl rfl, ⟨by decide, by decide⟩, vg_mathPlain rfl (by decide), vg_inGW (i := 677) rfl rfl⟩
def r_J9_floorMod_7cf53 : vg_R := ((yJ9_floorMod_7cf53, cJ9_floorMod_7cf53, 3, (some .int), 0, 0, 1, [], true), (fun as σ => ∃ (a1 : Int32) (a2 : Int32), as = [.int a1, .int a2] ∧ (0 < a2.toInt)), (fun as σ v σ' => match as, v with
  | [.int a1, .int a2], some (.int v) => σ' = σ ∧ (0 ≤ v.toInt ∧ v.toInt < a2.toInt)
  | _, _ => False))
set_option maxRecDepth 100000 in
theorem k_J9_floorMod_7cf53 : vg_rok r_J9_floorMod_7cf53 := ⟨vg_inGW (i := 630) rfl rfl, vg_inGW (i := 87) rfl rfl, ⟨by decide, by decide⟩, vg_mathPlain rfl (by decide), vg_inGW (i := 629) rfl rfl⟩
def r_J7_fill_53178 : vg_R := ((yJ7_fill_53178, cJ7_fill_53178, 4, none, 0, 0, 0, [], true), (fun as σ => ∃ (a1 : Nat) (a2 : Int32), as = [.ref a1, .int a2] ∧ a1 ∈ ([15, 9, 10, 11, 28, 29, 30, 5, 6, 24, 25, 36, 38, 40] : List Nat) ∧ Iv σ), (fun as σ v σ' => match as, v with
  | [.ref a1, .int a2], none => Iv σ' ∧ Kp σ σ' ∧ (True)
  | _, _ => False))
set_option maxRecDepth 100000 in
theorem k_J7_fill_53178 : vg_rok r_J7_fill_53178 := ⟨vg_inGW (i := 502) rfl rfl, vg_inGW (i := 86) rfl rfl, ⟨by decide, by decide⟩, plainFor_of_name (by decide), vg_inGW (i := 501) rfl rfl⟩
def r_J7_fill_53178_at34 : vg_R := ((yJ7_fill_53178, cJ7_fill_53178, 4, none, 0, 0, 0, [], true), (fun as σ => ∃ (a1 : Nat) (a2 : Int32), as = [.ref a1, .int a2] ∧ a1 ∈ ([34] : List Nat) ∧ Iv σ), (fun as σ v σ' => match as, v with
  | [.ref a1, .int a2], none => Iv σ' ∧ Kr σ σ' ∧ (∀ j : Nat, j < 2048 → σ'.1 34 j = a2)
  | _, _ => False))
set_option maxRecDepth 100000 in
theorem k_J7_fill_53178_at34 : vg_rok r_J7_fill_53178_at34 := ⟨vg_inGW (i := 502) rfl rfl, vg_inGW (i := 86) rfl rfl, ⟨by decide, by decide⟩, plainFor_of_name (by decide), vg_inGW (i := 501) rfl rfl⟩
def r_J7_fill_d0a16 : vg_R := ((yJ7_fill_d0a16, cJ7_fill_d0a16, 5, none, 0, 0, 0, [], true), (fun as σ => ∃ (a1 : Nat) (a2 : Int64), as = [.ref a1, .long a2] ∧ a1 ∈ ([13, 14] : List Nat) ∧ Iv σ), (fun as σ v σ' => match as, v with
  | [.ref a1, .long a2], none => Iv σ' ∧ Kp σ σ' ∧ (True)
  | _, _ => False))
set_option maxRecDepth 100000 in
theorem k_J7_fill_d0a16 : vg_rok r_J7_fill_d0a16 := ⟨vg_inGW (i := 514) rfl rfl, vg_inGW (i := 86) rfl rfl, ⟨by decide, by decide⟩, plainFor_of_name (by decide), vg_inGW (i := 513) rfl rfl⟩
def r_X10_putTo : vg_R := ((yX10_putTo, cX10_putTo, 2, (some .int), 0, 0, 1, [], true), (fun as σ => ∃ (a1 : Int32) (a2 : Int32), as = [.int a1, .int a2] ∧ True), (fun as σ v σ' => match as, v with
  | [.int a1, .int a2], some (.int v) => σ' = σ ∧ (True)
  | _, _ => False))
set_option maxRecDepth 100000 in
theorem k_X10_putTo : vg_rok r_X10_putTo := ⟨vg_inGW (i := 633) rfl rfl, vg_inGW (i := 74) rfl rfl, ⟨by decide, by decide⟩, plainFor_of_name (by decide), vg_inGW (i := 632) rfl rfl⟩
def r_X10_within : vg_R := ((yX10_within, cX10_within, 3, (some .boolean), 0, 0, 1, [], true), (fun as σ => ∃ (a1 : Int32) (a2 : Int32) (a3 : Int32), as = [.int a1, .int a2, .int a3] ∧ True), (fun as σ v σ' => match as, v with
  | [.int a1, .int a2, .int a3], some (.int v) => σ' = σ ∧ ((v.toInt = 1 ∧ a2.toInt ≤ a1.toInt ∧ a1.toInt ≤ a3.toInt) ∨ (v.toInt = 0 ∧ (a1.toInt < a2.toInt ∨ a3.toInt < a1.toInt)))
  | _, _ => False))
set_option maxRecDepth 100000 in
theorem k_X10_within : vg_rok r_X10_within := ⟨vg_inGW (i := 480) rfl rfl, vg_inGW (i := 74) rfl rfl, ⟨by decide, by decide⟩, plainFor_of_name (by decide), vg_inGW (i := 479) rfl rfl⟩
def r_X10_isNumber : vg_R := ((yX10_isNumber, cX10_isNumber, 1, (some .boolean), 1, 22, 1, [], true), (fun as σ => ∃ (a1 : Int32), as = [.int a1] ∧ True), (fun as σ v σ' => match as, v with
  | [.int a1], some (.int v) => σ' = σ ∧ ((v.toInt = 1 ∧ -30000 ≤ a1.toInt ∧ a1.toInt ≤ 30000) ∨ (v.toInt = 0 ∧ (a1.toInt < -30000 ∨ 30000 < a1.toInt)))
  | _, _ => False))
set_option maxRecDepth 100000 in
theorem k_X10_isNumber : vg_rok r_X10_isNumber := ⟨vg_inGW (i := 483) rfl rfl, vg_inGW (i := 74) rfl rfl, ⟨by decide, by decide⟩, plainFor_of_name (by decide), vg_inGW (i := 482) rfl rfl⟩
def r_X10_isTap : vg_R := ((yX10_isTap, cX10_isTap, 1, (some .boolean), 1, 22, 1, [], true), (fun as σ => ∃ (a1 : Int32), as = [.int a1] ∧ True), (fun as σ v σ' => match as, v with
  | [.int a1], some (.int v) => σ' = σ ∧ ((v.toInt = 1 ∧ -999 ≤ a1.toInt ∧ a1.toInt ≤ 999) ∨ (v.toInt = 0 ∧ (a1.toInt < -999 ∨ 999 < a1.toInt)))
  | _, _ => False))
set_option maxRecDepth 100000 in
theorem k_X10_isTap : vg_rok r_X10_isTap := ⟨vg_inGW (i := 578) rfl rfl, vg_inGW (i := 74) rfl rfl, ⟨by decide, by decide⟩, plainFor_of_name (by decide), vg_inGW (i := 577) rfl rfl⟩
def r_X10_isStage : vg_R := ((yX10_isStage, cX10_isStage, 1, (some .boolean), 1, 22, 1, [], true), (fun as σ => ∃ (a1 : Int32), as = [.int a1] ∧ True), (fun as σ v σ' => match as, v with
  | [.int a1], some (.int v) => σ' = σ ∧ ((v.toInt = 1 ∧ 0 ≤ a1.toInt ∧ a1.toInt ≤ 6) ∨ (v.toInt = 0 ∧ (a1.toInt < 0 ∨ 6 < a1.toInt)))
  | _, _ => False))
set_option maxRecDepth 100000 in
theorem k_X10_isStage : vg_rok r_X10_isStage := ⟨vg_inGW (i := 611) rfl rfl, vg_inGW (i := 74) rfl rfl, ⟨by decide, by decide⟩, plainFor_of_name (by decide), vg_inGW (i := 610) rfl rfl⟩
def r_X8_isKind : vg_R := ((yX8_isKind, cX8_isKind, 1, (some .boolean), 1, 22, 1, [], true), (fun as σ => ∃ (a1 : Int32), as = [.int a1] ∧ True), (fun as σ v σ' => match as, v with
  | [.int a1], some (.int v) => σ' = σ ∧ ((v.toInt = 1 ∧ 0 ≤ a1.toInt ∧ a1.toInt ≤ 3) ∨ (v.toInt = 0 ∧ (a1.toInt < 0 ∨ 3 < a1.toInt)))
  | _, _ => False))
set_option maxRecDepth 100000 in
theorem k_X8_isKind : vg_rok r_X8_isKind := ⟨vg_inGW (i := 603) rfl rfl, vg_inGW (i := 80) rfl rfl, ⟨by decide, by decide⟩, plainFor_of_name (by decide), vg_inGW (i := 602) rfl rfl⟩
def r_X0_forget : vg_R := ((yX0_forget, cX0_forget, 1, none, 0, 0, 0, [], false), (fun as σ => ∃ (r : Nat), as = [.ref r] ∧ r ∈ ([20] : List Nat) ∧ Iv σ), (fun as σ v σ' => match as, v with
  | [.ref r], none => Iv σ' ∧ Ks σ σ' ∧ (True)
  | _, _ => False))
set_option maxRecDepth 100000 in
theorem k_X0_forget : vg_rok r_X0_forget := ⟨vg_inGW (i := 539) rfl rfl, vg_inGW (i := 81) rfl rfl, ⟨by decide, by decide⟩, plainFor_of_name (by decide), ⟨vg_inGW (i := 537) rfl rfl, vg_inGW (i := 538) rfl rfl⟩⟩
def r_X0_add : vg_R := ((yX0_add, cX0_add, 3, none, 1, 31, 0, [], false), (fun as σ => ∃ (r : Nat) (a1 : Int32), as = [.ref r, .int a1] ∧ r ∈ ([20] : List Nat) ∧ Iv σ), (fun as σ v σ' => match as, v with
  | [.ref r, .int a1], none => Iv σ' ∧ Ks σ σ' ∧ (True)
  | _, _ => False))
set_option maxRecDepth 100000 in
theorem k_X0_add : vg_rok r_X0_add := ⟨vg_inGW (i := 944) rfl rfl, vg_inGW (i := 81) rfl rfl, ⟨by decide, by decide⟩, plainFor_of_name (by decide), ⟨vg_inGW (i := 942) rfl rfl, vg_inGW (i := 943) rfl rfl⟩⟩
def r_X1_begin : vg_R := ((yX1_begin, cX1_begin, 1, none, 1, 24, 0, [], false), (fun as σ => ∃ (r : Nat), as = [.ref r] ∧ r ∈ ([12] : List Nat) ∧ Iv σ), (fun as σ v σ' => match as, v with
  | [.ref r], none => Iv σ' ∧ Kp σ σ' ∧ (True)
  | _, _ => False))
set_option maxRecDepth 100000 in
theorem k_X1_begin : vg_rok r_X1_begin := ⟨vg_inGW (i := 511) rfl rfl, vg_inGW (i := 79) rfl rfl, ⟨by decide, by decide⟩, plainFor_of_name (by decide), ⟨vg_inGW (i := 509) rfl rfl, vg_inGW (i := 510) rfl rfl⟩⟩
def r_X1_cut : vg_R := ((yX1_cut, cX1_cut, 4, (some .int), 0, 0, 1, [], false), (fun as σ => ∃ (r : Nat) (a1 : Int64), as = [.ref r, .long a1] ∧ r ∈ ([12] : List Nat) ∧ Iv σ), (fun as σ v σ' => match as, v with
  | [.ref r, .long a1], some (.int v) => σ' = σ ∧ (True)
  | _, _ => False))
set_option maxRecDepth 100000 in
theorem k_X1_cut : vg_rok r_X1_cut := ⟨vg_inGW (i := 761) rfl rfl, vg_inGW (i := 79) rfl rfl, ⟨by decide, by decide⟩, plainFor_of_name (by decide), ⟨vg_inGW (i := 759) rfl rfl, vg_inGW (i := 760) rfl rfl⟩⟩
def r_X1_number : vg_R := ((yX1_number, cX1_number, 1, (some .int), 1, 23, 1, [], false), (fun as σ => ∃ (r : Nat), as = [.ref r] ∧ r ∈ ([12] : List Nat) ∧ Iv σ), (fun as σ v σ' => match as, v with
  | [.ref r], some (.int v) => σ' = σ ∧ (True)
  | _, _ => False))
set_option maxRecDepth 100000 in
theorem k_X1_number : vg_rok r_X1_number := ⟨vg_inGW (i := 757) rfl rfl, vg_inGW (i := 79) rfl rfl, ⟨by decide, by decide⟩, plainFor_of_name (by decide), ⟨vg_inGW (i := 755) rfl rfl, vg_inGW (i := 756) rfl rfl⟩⟩
def r_X1_take : vg_R := ((yX1_take, cX1_take, 7, (some .boolean), 2, 43, 1, [], false), (fun as σ => ∃ (r : Nat) (a1 : Int32), as = [.ref r, .int a1] ∧ r ∈ ([12] : List Nat) ∧ Iv σ), (fun as σ v σ' => match as, v with
  | [.ref r, .int a1], some (.int v) => Iv σ' ∧ Kp σ σ' ∧ (True)
  | _, _ => False))
set_option maxRecDepth 100000 in
theorem k_X1_take : vg_rok r_X1_take := ⟨vg_inGW (i := 753) rfl rfl, vg_inGW (i := 79) rfl rfl, ⟨by decide, by decide⟩, plainFor_of_name (by decide), ⟨vg_inGW (i := 751) rfl rfl, vg_inGW (i := 752) rfl rfl⟩⟩
def r_X1_leastWidth : vg_R := ((yX1_leastWidth, cX1_leastWidth, 5, (some .int), 0, 0, 1, [], false), (fun as σ => ∃ (r : Nat) (a1 : Int32), as = [.ref r, .int a1] ∧ r ∈ ([12] : List Nat) ∧ Iv σ), (fun as σ v σ' => match as, v with
  | [.ref r, .int a1], some (.int v) => σ' = σ ∧ (True)
  | _, _ => False))
set_option maxRecDepth 100000 in
theorem k_X1_leastWidth : vg_rok r_X1_leastWidth := ⟨vg_inGW (i := 571) rfl rfl, vg_inGW (i := 79) rfl rfl, ⟨by decide, by decide⟩, plainFor_of_name (by decide), ⟨vg_inGW (i := 569) rfl rfl, vg_inGW (i := 570) rfl rfl⟩⟩
def r_X1_lastOfResponse : vg_R := ((yX1_lastOfResponse, cX1_lastOfResponse, 1, (some .int), 0, 0, 1, [], false), (fun as σ => ∃ (r : Nat), as = [.ref r] ∧ r ∈ ([12] : List Nat) ∧ Iv σ), (fun as σ v σ' => match as, v with
  | [.ref r], some (.int v) => σ' = σ ∧ (True)
  | _, _ => False))
set_option maxRecDepth 100000 in
theorem k_X1_lastOfResponse : vg_rok r_X1_lastOfResponse := ⟨vg_inGW (i := 900) rfl rfl, vg_inGW (i := 79) rfl rfl, ⟨by decide, by decide⟩, plainFor_of_name (by decide), ⟨vg_inGW (i := 898) rfl rfl, vg_inGW (i := 899) rfl rfl⟩⟩
def r_X1_foldByOnes : vg_R := ((yX1_foldByOnes, cX1_foldByOnes, 4, none, 0, 0, 0, [], false), (fun as σ => ∃ (r : Nat), as = [.ref r] ∧ r ∈ ([12] : List Nat) ∧ Iv σ), (fun as σ v σ' => match as, v with
  | [.ref r], none => Iv σ' ∧ Kp σ σ' ∧ (True)
  | _, _ => False))
set_option maxRecDepth 100000 in
theorem k_X1_foldByOnes : vg_rok r_X1_foldByOnes := ⟨vg_inGW (i := 909) rfl rfl, vg_inGW (i := 79) rfl rfl, ⟨by decide, by decide⟩, plainFor_of_name (by decide), ⟨vg_inGW (i := 908) rfl rfl, vg_inGW (i := 23) rfl rfl⟩⟩
def r_X1_responseAt : vg_R := ((yX1_responseAt, cX1_responseAt, 3, (some .int), 1, 23, 1, [], false), (fun as σ => ∃ (r : Nat) (a1 : Int32), as = [.ref r, .int a1] ∧ r ∈ ([12] : List Nat) ∧ Iv σ), (fun as σ v σ' => match as, v with
  | [.ref r, .int a1], some (.int v) => Iv σ' ∧ Kp σ σ' ∧ (True)
  | _, _ => False))
set_option maxRecDepth 100000 in
theorem k_X1_responseAt : vg_rok r_X1_responseAt := ⟨vg_inGW (i := 904) rfl rfl, vg_inGW (i := 79) rfl rfl, ⟨by decide, by decide⟩, plainFor_of_name (by decide), ⟨vg_inGW (i := 902) rfl rfl, vg_inGW (i := 903) rfl rfl⟩⟩
def r_X2_begin : vg_R := ((yX2_begin, cX2_begin, 1, none, 1, 23, 0, [], false), (fun as σ => ∃ (r : Nat), as = [.ref r] ∧ r ∈ ([7, 26] : List Nat) ∧ Iv σ), (fun as σ v σ' => match as, v with
  | [.ref r], none => Iv σ' ∧ Kp σ σ' ∧ (True)
  | _, _ => False))
set_option maxRecDepth 100000 in
theorem k_X2_begin : vg_rok r_X2_begin := ⟨vg_inGW (i := 506) rfl rfl, vg_inGW (i := 78) rfl rfl, ⟨by decide, by decide⟩, plainFor_of_name (by decide), ⟨vg_inGW (i := 504) rfl rfl, vg_inGW (i := 505) rfl rfl⟩⟩
def r_X2_beginLike : vg_R := ((yX2_beginLike, cX2_beginLike, 3, none, 2, 43, 0, [], false), (fun as σ => ∃ (r : Nat) (a1 : Nat) (a2 : Int32), as = [.ref r, .ref a1, .int a2] ∧ r ∈ ([26] : List Nat) ∧ a1 ∈ ([7] : List Nat) ∧ Iv σ), (fun as σ v σ' => match as, v with
  | [.ref r, .ref a1, .int a2], none => Iv σ' ∧ Kp σ σ' ∧ (True)
  | _, _ => False))
set_option maxRecDepth 100000 in
theorem k_X2_beginLike : vg_rok r_X2_beginLike := ⟨vg_inGW (i := 1038) rfl rfl, vg_inGW (i := 78) rfl rfl, ⟨by decide, by decide⟩, plainFor_of_name (by decide), ⟨vg_inGW (i := 1036) rfl rfl, vg_inGW (i := 1037) rfl rfl⟩⟩
def r_X2_weight : vg_R := ((yX2_weight, cX2_weight, 2, (some .int), 0, 0, 1, [], false), (fun as σ => ∃ (r : Nat) (a1 : Int32), as = [.ref r, .int a1] ∧ r ∈ ([7, 26] : List Nat) ∧ Iv σ ∧ (0 ≤ a1.toInt ∧ a1.toInt ≤ 15)), (fun as σ v σ' => match as, v with
  | [.ref r, .int a1], some (.int v) => σ' = σ ∧ (True)
  | _, _ => False))
set_option maxRecDepth 100000 in
theorem k_X2_weight : vg_rok r_X2_weight := ⟨vg_inGW (i := 567) rfl rfl, vg_inGW (i := 78) rfl rfl, ⟨by decide, by decide⟩, plainFor_of_name (by decide), ⟨vg_inGW (i := 565) rfl rfl, vg_inGW (i := 566) rfl rfl⟩⟩
def r_X2_weightsOf : vg_R := ((yX2_weightsOf, cX2_weightsOf, 4, (some .int), 1, 21, 1, [], false), (fun as σ => ∃ (r : Nat) (a1 : Int32), as = [.ref r, .int a1] ∧ r ∈ ([7, 26] : List Nat) ∧ Iv σ), (fun as σ v σ' => match as, v with
  | [.ref r, .int a1], some (.int v) => σ' = σ ∧ (True)
  | _, _ => False))
set_option maxRecDepth 100000 in
theorem k_X2_weightsOf : vg_rok r_X2_weightsOf := ⟨vg_inGW (i := 563) rfl rfl, vg_inGW (i := 78) rfl rfl, ⟨by decide, by decide⟩, plainFor_of_name (by decide), ⟨vg_inGW (i := 562) rfl rfl, vg_inGW (i := 3) rfl rfl⟩⟩
def r_X2_allWeights : vg_R := ((yX2_allWeights, cX2_allWeights, 1, (some .int), 2, 44, 1, [], false), (fun as σ => ∃ (r : Nat), as = [.ref r] ∧ r ∈ ([7, 26] : List Nat) ∧ Iv σ), (fun as σ v σ' => match as, v with
  | [.ref r], some (.int v) => σ' = σ ∧ (True)
  | _, _ => False))
set_option maxRecDepth 100000 in
theorem k_X2_allWeights : vg_rok r_X2_allWeights := ⟨vg_inGW (i := 559) rfl rfl, vg_inGW (i := 78) rfl rfl, ⟨by decide, by decide⟩, plainFor_of_name (by decide), ⟨vg_inGW (i := 557) rfl rfl, vg_inGW (i := 558) rfl rfl⟩⟩
def r_X2_unevenness : vg_R := ((yX2_unevenness, cX2_unevenness, 4, (some .int), 1, 21, 1, [], false), (fun as σ => ∃ (r : Nat), as = [.ref r] ∧ r ∈ ([7, 26] : List Nat) ∧ Iv σ), (fun as σ v σ' => match as, v with
  | [.ref r], some (.int v) => σ' = σ ∧ (True)
  | _, _ => False))
set_option maxRecDepth 100000 in
theorem k_X2_unevenness : vg_rok r_X2_unevenness := ⟨vg_inGW (i := 860) rfl rfl, vg_inGW (i := 78) rfl rfl, ⟨by decide, by decide⟩, plainFor_of_name (by decide), ⟨vg_inGW (i := 858) rfl rfl, vg_inGW (i := 859) rfl rfl⟩⟩
def r_X2_chooseRotated : vg_R := ((yX2_chooseRotated, cX2_chooseRotated, 4, (some .int), 0, 0, 1, [], false), (fun as σ => ∃ (r : Nat) (a1 : Int32), as = [.ref r, .int a1] ∧ r ∈ ([7, 26] : List Nat) ∧ Iv σ), (fun as σ v σ' => match as, v with
  | [.ref r, .int a1], some (.int v) => σ' = σ ∧ (True)
  | _, _ => False))
set_option maxRecDepth 100000 in
theorem k_X2_chooseRotated : vg_rok r_X2_chooseRotated := ⟨vg_inGW (i := 732) rfl rfl, vg_inGW (i := 78) rfl rfl, ⟨by decide, by decide⟩, plainFor_of_name (by decide), ⟨vg_inGW (i := 731) rfl rfl, vg_inGW (i := 14) rfl rfl⟩⟩
def r_X2_mostDue : vg_R := ((yX2_mostDue, cX2_mostDue, 6, (some .int), 0, 0, 1, [], false), (fun as σ => ∃ (r : Nat) (a1 : Int32), as = [.ref r, .int a1] ∧ r ∈ ([7, 26] : List Nat) ∧ Iv σ), (fun as σ v σ' => match as, v with
  | [.ref r, .int a1], some (.int v) => σ' = σ ∧ (True)
  | _, _ => False))
set_option maxRecDepth 100000 in
theorem k_X2_mostDue : vg_rok r_X2_mostDue := ⟨vg_inGW (i := 740) rfl rfl, vg_inGW (i := 78) rfl rfl, ⟨by decide, by decide⟩, plainFor_of_name (by decide), ⟨vg_inGW (i := 739) rfl rfl, vg_inGW (i := 16) rfl rfl⟩⟩
def r_X2_chooseTwice : vg_R := ((yX2_chooseTwice, cX2_chooseTwice, 4, (some .int), 1, 25, 1, [], false), (fun as σ => ∃ (r : Nat) (a1 : Int32), as = [.ref r, .int a1] ∧ r ∈ ([7, 26] : List Nat) ∧ Iv σ), (fun as σ v σ' => match as, v with
  | [.ref r, .int a1], some (.int v) => σ' = σ ∧ (True)
  | _, _ => False))
set_option maxRecDepth 100000 in
theorem k_X2_chooseTwice : vg_rok r_X2_chooseTwice := ⟨vg_inGW (i := 736) rfl rfl, vg_inGW (i := 78) rfl rfl, ⟨by decide, by decide⟩, plainFor_of_name (by decide), ⟨vg_inGW (i := 735) rfl rfl, vg_inGW (i := 15) rfl rfl⟩⟩
def r_X2_choose : vg_R := ((yX2_choose, cX2_choose, 2, (some .int), 2, 48, 1, [], false), (fun as σ => ∃ (r : Nat) (a1 : Int32), as = [.ref r, .int a1] ∧ r ∈ ([7, 26] : List Nat) ∧ Iv σ), (fun as σ v σ' => match as, v with
  | [.ref r, .int a1], some (.int v) => σ' = σ ∧ (True)
  | _, _ => False))
set_option maxRecDepth 100000 in
theorem k_X2_choose : vg_rok r_X2_choose := ⟨vg_inGW (i := 728) rfl rfl, vg_inGW (i := 78) rfl rfl, ⟨by decide, by decide⟩, plainFor_of_name (by decide), ⟨vg_inGW (i := 726) rfl rfl, vg_inGW (i := 727) rfl rfl⟩⟩
def r_X2_runUpDebts : vg_R := ((yX2_runUpDebts, cX2_runUpDebts, 4, none, 1, 21, 0, [], false), (fun as σ => ∃ (r : Nat) (a1 : Int32), as = [.ref r, .int a1] ∧ r ∈ ([7, 26] : List Nat) ∧ Iv σ), (fun as σ v σ' => match as, v with
  | [.ref r, .int a1], none => Iv σ' ∧ Kp σ σ' ∧ (True)
  | _, _ => False))
set_option maxRecDepth 100000 in
theorem k_X2_runUpDebts : vg_rok r_X2_runUpDebts := ⟨vg_inGW (i := 744) rfl rfl, vg_inGW (i := 78) rfl rfl, ⟨by decide, by decide⟩, plainFor_of_name (by decide), ⟨vg_inGW (i := 743) rfl rfl, vg_inGW (i := 17) rfl rfl⟩⟩
def r_X2_take : vg_R := ((yX2_take, cX2_take, 3, (some .int), 3, 69, 1, [], false), (fun as σ => ∃ (r : Nat) (a1 : Int32), as = [.ref r, .int a1] ∧ r ∈ ([7, 26] : List Nat) ∧ Iv σ), (fun as σ v σ' => match as, v with
  | [.ref r, .int a1], some (.int v) => Iv σ' ∧ Kp σ σ' ∧ (True)
  | _, _ => False))
set_option maxRecDepth 100000 in
theorem k_X2_take : vg_rok r_X2_take := ⟨vg_inGW (i := 724) rfl rfl, vg_inGW (i := 78) rfl rfl, ⟨by decide, by decide⟩, plainFor_of_name (by decide), ⟨vg_inGW (i := 722) rfl rfl, vg_inGW (i := 723) rfl rfl⟩⟩
def r_X3_begin : vg_R := ((yX3_begin, cX3_begin, 1, none, 1, 23, 0, [], false), (fun as σ => ∃ (r : Nat), as = [.ref r] ∧ r ∈ ([35, 37, 39] : List Nat) ∧ Iv σ), (fun as σ v σ' => match as, v with
  | [.ref r], none => Iv σ' ∧ Kp σ σ' ∧ (True)
  | _, _ => False))
set_option maxRecDepth 100000 in
theorem k_X3_begin : vg_rok r_X3_begin := ⟨vg_inGW (i := 518) rfl rfl, vg_inGW (i := 83) rfl rfl, ⟨by decide, by decide⟩, plainFor_of_name (by decide), ⟨vg_inGW (i := 516) rfl rfl, vg_inGW (i := 517) rfl rfl⟩⟩
def r_X3_take : vg_R := ((yX3_take, cX3_take, 2, (some .boolean), 0, 0, 1, [], false), (fun as σ => ∃ (r : Nat) (a1 : Int32), as = [.ref r, .int a1] ∧ r ∈ ([35, 37, 39] : List Nat) ∧ Iv σ), (fun as σ v σ' => match as, v with
  | [.ref r, .int a1], some (.int v) => Iv σ' ∧ Kp σ σ' ∧ (0 ≤ v.toInt ∧ v.toInt ≤ 1)
  | _, _ => False))
set_option maxRecDepth 100000 in
theorem k_X3_take : vg_rok r_X3_take := ⟨vg_inGW (i := 770) rfl rfl, vg_inGW (i := 83) rfl rfl, ⟨by decide, by decide⟩, plainFor_of_name (by decide), ⟨vg_inGW (i := 768) rfl rfl, vg_inGW (i := 769) rfl rfl⟩⟩
def r_X8_rowOf : vg_R := ((yX8_rowOf, cX8_rowOf, 2, (some (.array .int)), 0, 0, 3, [100, 101, 102, 17], false), (fun as σ => ∃ (r : Nat) (a1 : Int32), as = [.ref r, .int a1] ∧ r ∈ ([16] : List Nat) ∧ Iv σ), (fun as σ v σ' => match as, v with
  | [.ref r, .int a1], some (.ref v) => σ' = σ ∧ (v ∈ ([100, 101, 102, 17] : List Nat))
  | _, _ => False))
set_option maxRecDepth 100000 in
theorem k_X8_rowOf : vg_rok r_X8_rowOf := ⟨vg_inGW (i := 590) rfl rfl, vg_inGW (i := 80) rfl rfl, ⟨by decide, by decide⟩, plainFor_of_name (by decide), ⟨vg_inGW (i := 588) rfl rfl, vg_inGW (i := 589) rfl rfl⟩⟩
def r_X8_shiftOf : vg_R := ((yX8_shiftOf, cX8_shiftOf, 2, (some .int), 0, 0, 1, [], false), (fun as σ => ∃ (r : Nat) (a1 : Int32), as = [.ref r, .int a1] ∧ r ∈ ([16] : List Nat) ∧ Iv σ), (fun as σ v σ' => match as, v with
  | [.ref r, .int a1], some (.int v) => σ' = σ ∧ (True)
  | _, _ => False))
set_option maxRecDepth 100000 in
theorem k_X8_shiftOf : vg_rok r_X8_shiftOf := ⟨vg_inGW (i := 779) rfl rfl, vg_inGW (i := 80) rfl rfl, ⟨by decide, by decide⟩, plainFor_of_name (by decide), ⟨vg_inGW (i := 777) rfl rfl, vg_inGW (i := 778) rfl rfl⟩⟩
def r_X3_number : vg_R := ((yX3_number, cX3_number, 6, (some .int), 1, 21, 1, [], false), (fun as σ => ∃ (r : Nat) (a1 : Nat), as = [.ref r, .ref a1] ∧ r ∈ ([35, 37, 39] : List Nat) ∧ a1 ∈ ([16] : List Nat) ∧ Iv σ), (fun as σ v σ' => match as, v with
  | [.ref r, .ref a1], some (.int v) => σ' = σ ∧ (True)
  | _, _ => False))
set_option maxRecDepth 100000 in
theorem k_X3_number : vg_rok r_X3_number := ⟨vg_inGW (i := 774) rfl rfl, vg_inGW (i := 83) rfl rfl, ⟨by decide, by decide⟩, plainFor_of_name (by decide), ⟨vg_inGW (i := 772) rfl rfl, vg_inGW (i := 773) rfl rfl⟩⟩
def r_X8_tell : vg_R := ((yX8_tell, cX8_tell, 6, none, 0, 0, 0, [], false), (fun as σ => ∃ (r : Nat) (a1 : Int32) (a2 : Int32) (a3 : Int32) (a4 : Int32) (a5 : Int32), as = [.ref r, .int a1, .int a2, .int a3, .int a4, .int a5] ∧ r ∈ ([16] : List Nat) ∧ Iv σ), (fun as σ v σ' => match as, v with
  | [.ref r, .int a1, .int a2, .int a3, .int a4, .int a5], none => Iv σ' ∧ Ks σ σ' ∧ (True)
  | _, _ => False))
set_option maxRecDepth 100000 in
theorem k_X8_tell : vg_rok r_X8_tell := ⟨vg_inGW (i := 582) rfl rfl, vg_inGW (i := 80) rfl rfl, ⟨by decide, by decide⟩, plainFor_of_name (by decide), ⟨vg_inGW (i := 580) rfl rfl, vg_inGW (i := 581) rfl rfl⟩⟩
def r_X8_sumOf : vg_R := ((yX8_sumOf, cX8_sumOf, 7, (some .int), 1, 21, 1, [], false), (fun as σ => ∃ (r : Nat) (a1 : Int32), as = [.ref r, .int a1] ∧ r ∈ ([16] : List Nat) ∧ Iv σ), (fun as σ v σ' => match as, v with
  | [.ref r, .int a1], some (.int v) => σ' = σ ∧ (True)
  | _, _ => False))
set_option maxRecDepth 100000 in
theorem k_X8_sumOf : vg_rok r_X8_sumOf := ⟨vg_inGW (i := 586) rfl rfl, vg_inGW (i := 80) rfl rfl, ⟨by decide, by decide⟩, plainFor_of_name (by decide), ⟨vg_inGW (i := 584) rfl rfl, vg_inGW (i := 585) rfl rfl⟩⟩
def r_X8_isHalfBand : vg_R := ((yX8_isHalfBand, cX8_isHalfBand, 4, (some .boolean), 1, 21, 1, [], false), (fun as σ => ∃ (r : Nat) (a1 : Int32), as = [.ref r, .int a1] ∧ r ∈ ([16] : List Nat) ∧ Iv σ), (fun as σ v σ' => match as, v with
  | [.ref r, .int a1], some (.int v) => σ' = σ ∧ (0 ≤ v.toInt ∧ v.toInt ≤ 1)
  | _, _ => False))
set_option maxRecDepth 100000 in
theorem k_X8_isHalfBand : vg_rok r_X8_isHalfBand := ⟨vg_inGW (i := 917) rfl rfl, vg_inGW (i := 80) rfl rfl, ⟨by decide, by decide⟩, plainFor_of_name (by decide), ⟨vg_inGW (i := 915) rfl rfl, vg_inGW (i := 916) rfl rfl⟩⟩
def r_X8_manyOf : vg_R := ((yX8_manyOf, cX8_manyOf, 6, (some .int), 1, 21, 1, [], false), (fun as σ => ∃ (r : Nat) (a1 : Int32) (a2 : Int32), as = [.ref r, .int a1, .int a2] ∧ r ∈ ([16] : List Nat) ∧ Iv σ), (fun as σ v σ' => match as, v with
  | [.ref r, .int a1, .int a2], some (.int v) => σ' = σ ∧ (True)
  | _, _ => False))
set_option maxRecDepth 100000 in
theorem k_X8_manyOf : vg_rok r_X8_manyOf := ⟨vg_inGW (i := 883) rfl rfl, vg_inGW (i := 80) rfl rfl, ⟨by decide, by decide⟩, plainFor_of_name (by decide), ⟨vg_inGW (i := 882) rfl rfl, vg_inGW (i := 22) rfl rfl⟩⟩
def r_X8_plainOf : vg_R := ((yX8_plainOf, cX8_plainOf, 2, (some .int), 2, 46, 1, [], false), (fun as σ => ∃ (r : Nat) (a1 : Int32), as = [.ref r, .int a1] ∧ r ∈ ([16] : List Nat) ∧ Iv σ), (fun as σ v σ' => match as, v with
  | [.ref r, .int a1], some (.int v) => σ' = σ ∧ (True)
  | _, _ => False))
set_option maxRecDepth 100000 in
theorem k_X8_plainOf : vg_rok r_X8_plainOf := ⟨vg_inGW (i := 879) rfl rfl, vg_inGW (i := 80) rfl rfl, ⟨by decide, by decide⟩, plainFor_of_name (by decide), ⟨vg_inGW (i := 877) rfl rfl, vg_inGW (i := 878) rfl rfl⟩⟩
def r_X8_foldedOf : vg_R := ((yX8_foldedOf, cX8_foldedOf, 2, (some .int), 2, 46, 1, [], false), (fun as σ => ∃ (r : Nat) (a1 : Int32), as = [.ref r, .int a1] ∧ r ∈ ([16] : List Nat) ∧ Iv σ), (fun as σ v σ' => match as, v with
  | [.ref r, .int a1], some (.int v) => σ' = σ ∧ (True)
  | _, _ => False))
set_option maxRecDepth 100000 in
theorem k_X8_foldedOf : vg_rok r_X8_foldedOf := ⟨vg_inGW (i := 887) rfl rfl, vg_inGW (i := 80) rfl rfl, ⟨by decide, by decide⟩, plainFor_of_name (by decide), ⟨vg_inGW (i := 885) rfl rfl, vg_inGW (i := 886) rfl rfl⟩⟩
def r_X4_clear : vg_R := ((yX4_clear, cX4_clear, 1, none, 0, 0, 0, [], false), (fun as σ => ∃ (r : Nat), as = [.ref r] ∧ r ∈ ([41, 43, 45, 47, 49, 51, 53] : List Nat) ∧ Iv σ), (fun as σ v σ' => match as, v with
  | [.ref r], none => Iv σ' ∧ Kp σ σ' ∧ (True)
  | _, _ => False))
set_option maxRecDepth 100000 in
theorem k_X4_clear : vg_rok r_X4_clear := ⟨vg_inGW (i := 495) rfl rfl, vg_inGW (i := 84) rfl rfl, ⟨by decide, by decide⟩, plainFor_of_name (by decide), ⟨vg_inGW (i := 493) rfl rfl, vg_inGW (i := 494) rfl rfl⟩⟩
def r_X4_put : vg_R := ((yX4_put, cX4_put, 2, none, 1, 21, 0, [], false), (fun as σ => ∃ (r : Nat) (a1 : Int32), as = [.ref r, .int a1] ∧ r ∈ ([41, 43, 45, 47, 49, 51, 53] : List Nat) ∧ Iv σ), (fun as σ v σ' => match as, v with
  | [.ref r, .int a1], none => Iv σ' ∧ Kp σ σ' ∧ (True)
  | _, _ => False))
set_option maxRecDepth 100000 in
theorem k_X4_put : vg_rok r_X4_put := ⟨vg_inGW (i := 637) rfl rfl, vg_inGW (i := 84) rfl rfl, ⟨by decide, by decide⟩, plainFor_of_name (by decide), ⟨vg_inGW (i := 635) rfl rfl, vg_inGW (i := 636) rfl rfl⟩⟩
def r_X4_get : vg_R := ((yX4_get, cX4_get, 2, (some .int), 0, 0, 1, [], false), (fun as σ => ∃ (r : Nat) (a1 : Int32), as = [.ref r, .int a1] ∧ r ∈ ([41, 43, 45, 47, 49, 51, 53] : List Nat) ∧ Iv σ), (fun as σ v σ' => match as, v with
  | [.ref r, .int a1], some (.int v) => σ' = σ ∧ (True)
  | _, _ => False))
set_option maxRecDepth 100000 in
theorem k_X4_get : vg_rok r_X4_get := ⟨vg_inGW (i := 791) rfl rfl, vg_inGW (i := 84) rfl rfl, ⟨by decide, by decide⟩, plainFor_of_name (by decide), ⟨vg_inGW (i := 789) rfl rfl, vg_inGW (i := 790) rfl rfl⟩⟩
def r_X4_least : vg_R := ((yX4_least, cX4_least, 3, (some .int), 1, 21, 1, [], false), (fun as σ => ∃ (r : Nat), as = [.ref r] ∧ r ∈ ([41, 43, 45, 47, 49, 51, 53] : List Nat) ∧ Iv σ), (fun as σ v σ' => match as, v with
  | [.ref r], some (.int v) => σ' = σ ∧ (True)
  | _, _ => False))
set_option maxRecDepth 100000 in
theorem k_X4_least : vg_rok r_X4_least := ⟨vg_inGW (i := 828) rfl rfl, vg_inGW (i := 84) rfl rfl, ⟨by decide, by decide⟩, plainFor_of_name (by decide), ⟨vg_inGW (i := 826) rfl rfl, vg_inGW (i := 827) rfl rfl⟩⟩
def r_X4_greatest : vg_R := ((yX4_greatest, cX4_greatest, 3, (some .int), 1, 21, 1, [], false), (fun as σ => ∃ (r : Nat), as = [.ref r] ∧ r ∈ ([41, 43, 45, 47, 49, 51, 53] : List Nat) ∧ Iv σ), (fun as σ v σ' => match as, v with
  | [.ref r], some (.int v) => σ' = σ ∧ (True)
  | _, _ => False))
set_option maxRecDepth 100000 in
theorem k_X4_greatest : vg_rok r_X4_greatest := ⟨vg_inGW (i := 833) rfl rfl, vg_inGW (i := 84) rfl rfl, ⟨by decide, by decide⟩, plainFor_of_name (by decide), ⟨vg_inGW (i := 831) rfl rfl, vg_inGW (i := 832) rfl rfl⟩⟩
def r_X4_total : vg_R := ((yX4_total, cX4_total, 4, (some .long), 1, 21, 2, [], false), (fun as σ => ∃ (r : Nat), as = [.ref r] ∧ r ∈ ([41, 43, 45, 47, 49, 51, 53] : List Nat) ∧ Iv σ), (fun as σ v σ' => match as, v with
  | [.ref r], some (.long v) => σ' = σ ∧ (True)
  | _, _ => False))
set_option maxRecDepth 100000 in
theorem k_X4_total : vg_rok r_X4_total := ⟨vg_inGW (i := 838) rfl rfl, vg_inGW (i := 84) rfl rfl, ⟨by decide, by decide⟩, plainFor_of_name (by decide), ⟨vg_inGW (i := 836) rfl rfl, vg_inGW (i := 837) rfl rfl⟩⟩
def r_X4_nearLatest : vg_R := ((yX4_nearLatest, cX4_nearLatest, 3, (some .int), 1, 21, 1, [], false), (fun as σ => ∃ (r : Nat) (a1 : Int32), as = [.ref r, .int a1] ∧ r ∈ ([41, 43, 45, 47, 49, 51, 53] : List Nat) ∧ Iv σ), (fun as σ v σ' => match as, v with
  | [.ref r, .int a1], some (.int v) => σ' = σ ∧ (True)
  | _, _ => False))
set_option maxRecDepth 100000 in
theorem k_X4_nearLatest : vg_rok r_X4_nearLatest := ⟨vg_inGW (i := 846) rfl rfl, vg_inGW (i := 84) rfl rfl, ⟨by decide, by decide⟩, plainFor_of_name (by decide), ⟨vg_inGW (i := 844) rfl rfl, vg_inGW (i := 845) rfl rfl⟩⟩
def r_X4_beatOf : vg_R := ((yX4_beatOf, cX4_beatOf, 9, (some .long), 2, 44, 2, [], false), (fun as σ => ∃ (r : Nat) (a1 : Int32), as = [.ref r, .int a1] ∧ r ∈ ([41, 43, 45, 47, 49, 51, 53] : List Nat) ∧ Iv σ ∧ (0 ≤ a1.toInt ∧ a1.toInt ≤ 47)), (fun as σ v σ' => match as, v with
  | [.ref r, .int a1], some (.long v) => σ' = σ ∧ (True)
  | _, _ => False))
set_option maxRecDepth 100000 in
theorem k_X4_beatOf : vg_rok r_X4_beatOf := ⟨vg_inGW (i := 926) rfl rfl, vg_inGW (i := 84) rfl rfl, ⟨by decide, by decide⟩, plainFor_of_name (by decide), ⟨vg_inGW (i := 924) rfl rfl, vg_inGW (i := 925) rfl rfl⟩⟩
def r_X4_greatestBeat : vg_R := ((yX4_greatestBeat, cX4_greatestBeat, 9, (some .int), 3, 72, 1, [], false), (fun as σ => ∃ (r : Nat) (a1 : Int32) (a2 : Int32), as = [.ref r, .int a1, .int a2] ∧ r ∈ ([41, 43, 45, 47, 49, 51, 53] : List Nat) ∧ Iv σ ∧ (0 ≤ a1.toInt ∧ a1.toInt ≤ 24 ∧ 0 ≤ a2.toInt ∧ a2.toInt ≤ 24)), (fun as σ v σ' => match as, v with
  | [.ref r, .int a1, .int a2], some (.int v) => σ' = σ ∧ (True)
  | _, _ => False))
set_option maxRecDepth 100000 in
theorem k_X4_greatestBeat : vg_rok r_X4_greatestBeat := ⟨vg_inGW (i := 935) rfl rfl, vg_inGW (i := 84) rfl rfl, ⟨by decide, by decide⟩, plainFor_of_name (by decide), ⟨vg_inGW (i := 933) rfl rfl, vg_inGW (i := 934) rfl rfl⟩⟩
def r_X6_copyFrom : vg_R := ((yX6_copyFrom, cX6_copyFrom, 2, none, 0, 0, 0, [], false), (fun as σ => ∃ (r : Nat) (a1 : Nat), as = [.ref r, .ref a1] ∧ r ∈ ([23] : List Nat) ∧ a1 ∈ ([4] : List Nat) ∧ Iv σ), (fun as σ v σ' => match as, v with
  | [.ref r, .ref a1], none => Iv σ' ∧ Kp σ σ' ∧ (True)
  | _, _ => False))
set_option maxRecDepth 100000 in
theorem k_X6_copyFrom : vg_rok r_X6_copyFrom := ⟨vg_inGW (i := 959) rfl rfl, vg_inGW (i := 77) rfl rfl, ⟨by decide, by decide⟩, plainFor_of_name (by decide), ⟨vg_inGW (i := 957) rfl rfl, vg_inGW (i := 958) rfl rfl⟩⟩
def r_X6_besides : vg_R := ((yX6_besides, cX6_besides, 1, (some .int), 0, 0, 1, [], false), (fun as σ => ∃ (r : Nat), as = [.ref r] ∧ r ∈ ([4, 23] : List Nat) ∧ Iv σ), (fun as σ v σ' => match as, v with
  | [.ref r], some (.int v) => σ' = σ ∧ (True)
  | _, _ => False))
set_option maxRecDepth 100000 in
theorem k_X6_besides : vg_rok r_X6_besides := ⟨vg_inGW (i := 688) rfl rfl, vg_inGW (i := 77) rfl rfl, ⟨by decide, by decide⟩, plainFor_of_name (by decide), ⟨vg_inGW (i := 686) rfl rfl, vg_inGW (i := 687) rfl rfl⟩⟩
def r_X6_valueOfSmall : vg_R := ((yX6_valueOfSmall, cX6_valueOfSmall, 2, (some .int), 0, 0, 1, [], false), (fun as σ => ∃ (r : Nat) (a1 : Int32), as = [.ref r, .int a1] ∧ r ∈ ([4, 23] : List Nat) ∧ Iv σ), (fun as σ v σ' => match as, v with
  | [.ref r, .int a1], some (.int v) => σ' = σ ∧ (True)
  | _, _ => False))
set_option maxRecDepth 100000 in
theorem k_X6_valueOfSmall : vg_rok r_X6_valueOfSmall := ⟨vg_inGW (i := 692) rfl rfl, vg_inGW (i := 77) rfl rfl, ⟨by decide, by decide⟩, plainFor_of_name (by decide), ⟨vg_inGW (i := 690) rfl rfl, vg_inGW (i := 691) rfl rfl⟩⟩
def r_X6_valueOf : vg_R := ((yX6_valueOf, cX6_valueOf, 2, (some .int), 1, 21, 1, [], false), (fun as σ => ∃ (r : Nat) (a1 : Int32), as = [.ref r, .int a1] ∧ r ∈ ([4, 23] : List Nat) ∧ Iv σ), (fun as σ v σ' => match as, v with
  | [.ref r, .int a1], some (.int v) => σ' = σ ∧ (True)
  | _, _ => False))
set_option maxRecDepth 100000 in
theorem k_X6_valueOf : vg_rok r_X6_valueOf := ⟨vg_inGW (i := 708) rfl rfl, vg_inGW (i := 77) rfl rfl, ⟨by decide, by decide⟩, plainFor_of_name (by decide), ⟨vg_inGW (i := 706) rfl rfl, vg_inGW (i := 707) rfl rfl⟩⟩
def r_X6_nearest : vg_R := ((yX6_nearest, cX6_nearest, 3, (some .int), 1, 22, 1, [], false), (fun as σ => ∃ (r : Nat) (a1 : Int32), as = [.ref r, .int a1] ∧ r ∈ ([4, 23] : List Nat) ∧ Iv σ), (fun as σ v σ' => match as, v with
  | [.ref r, .int a1], some (.int v) => σ' = σ ∧ (True)
  | _, _ => False))
set_option maxRecDepth 100000 in
theorem k_X6_nearest : vg_rok r_X6_nearest := ⟨vg_inGW (i := 675) rfl rfl, vg_inGW (i := 77) rfl rfl, ⟨by decide, by decide⟩, plainFor_of_name (by decide), ⟨vg_inGW (i := 673) rfl rfl, vg_inGW (i := 674) rfl rfl⟩⟩
def r_X6_elementsOf : vg_R := ((yX6_elementsOf, cX6_elementsOf, 3, (some .int), 0, 0, 1, [], true), (fun as σ => ∃ (a1 : Int32) (a2 : Int32) (a3 : Int32), as = [.int a1, .int a2, .int a3] ∧ (1 ≤ a2.toInt ∧ a2.toInt ≤ 4 ∧ 2 ≤ a3.toInt ∧ a3.toInt ≤ 17)), (fun as σ v σ' => match as, v with
  | [.int a1, .int a2, .int a3], some (.int v) => σ' = σ ∧ (1 ≤ v.toInt ∧ v.toInt ≤ 240)
  | _, _ => False))
set_option maxRecDepth 100000 in
theorem k_X6_elementsOf : vg_rok r_X6_elementsOf := ⟨vg_inGW (i := 535) rfl rfl, vg_inGW (i := 77) rfl rfl, ⟨by decide, by decide⟩, plainFor_of_name (by decide), vg_inGW (i := 534) rfl rfl⟩
def r_X5_begin : vg_R := ((yX5_begin, cX5_begin, 1, none, 1, 23, 0, [], false), (fun as σ => ∃ (r : Nat), as = [.ref r] ∧ r ∈ ([3, 22] : List Nat) ∧ Iv σ), (fun as σ v σ' => match as, v with
  | [.ref r], none => Iv σ' ∧ Kp σ σ' ∧ (True)
  | _, _ => False))
set_option maxRecDepth 100000 in
theorem k_X5_begin : vg_rok r_X5_begin := ⟨vg_inGW (i := 499) rfl rfl, vg_inGW (i := 76) rfl rfl, ⟨by decide, by decide⟩, plainFor_of_name (by decide), ⟨vg_inGW (i := 497) rfl rfl, vg_inGW (i := 498) rfl rfl⟩⟩
def r_X5_beginTone : vg_R := ((yX5_beginTone, cX5_beginTone, 2, none, 2, 43, 0, [], false), (fun as σ => ∃ (r : Nat) (a1 : Nat), as = [.ref r, .ref a1] ∧ r ∈ ([22] : List Nat) ∧ a1 ∈ ([4] : List Nat) ∧ Iv σ), (fun as σ v σ' => match as, v with
  | [.ref r, .ref a1], none => Iv σ' ∧ Kp σ σ' ∧ (True)
  | _, _ => False))
set_option maxRecDepth 100000 in
theorem k_X5_beginTone : vg_rok r_X5_beginTone := ⟨vg_inGW (i := 955) rfl rfl, vg_inGW (i := 76) rfl rfl, ⟨by decide, by decide⟩, plainFor_of_name (by decide), ⟨vg_inGW (i := 953) rfl rfl, vg_inGW (i := 954) rfl rfl⟩⟩
def r_X5_copyFrom : vg_R := ((yX5_copyFrom, cX5_copyFrom, 2, none, 2, 43, 0, [], false), (fun as σ => ∃ (r : Nat) (a1 : Nat), as = [.ref r, .ref a1] ∧ r ∈ ([22] : List Nat) ∧ a1 ∈ ([3] : List Nat) ∧ Iv σ), (fun as σ v σ' => match as, v with
  | [.ref r, .ref a1], none => Iv σ' ∧ Kp σ σ' ∧ (True)
  | _, _ => False))
set_option maxRecDepth 100000 in
theorem k_X5_copyFrom : vg_rok r_X5_copyFrom := ⟨vg_inGW (i := 1034) rfl rfl, vg_inGW (i := 76) rfl rfl, ⟨by decide, by decide⟩, plainFor_of_name (by decide), ⟨vg_inGW (i := 1032) rfl rfl, vg_inGW (i := 1033) rfl rfl⟩⟩
def r_X5_gapNow : vg_R := ((yX5_gapNow, cX5_gapNow, 1, (some .long), 0, 0, 2, [], false), (fun as σ => ∃ (r : Nat), as = [.ref r] ∧ r ∈ ([3, 22] : List Nat) ∧ Iv σ), (fun as σ v σ' => match as, v with
  | [.ref r], some (.long v) => σ' = σ ∧ (True)
  | _, _ => False))
set_option maxRecDepth 100000 in
theorem k_X5_gapNow : vg_rok r_X5_gapNow := ⟨vg_inGW (i := 714) rfl rfl, vg_inGW (i := 76) rfl rfl, ⟨by decide, by decide⟩, plainFor_of_name (by decide), ⟨vg_inGW (i := 712) rfl rfl, vg_inGW (i := 713) rfl rfl⟩⟩
def r_X5_drawDither : vg_R := ((yX5_drawDither, cX5_drawDither, 1, (some .int), 0, 0, 1, [], false), (fun as σ => ∃ (r : Nat), as = [.ref r] ∧ r ∈ ([3, 22] : List Nat) ∧ Iv σ), (fun as σ v σ' => match as, v with
  | [.ref r], some (.int v) => Iv σ' ∧ Kp σ σ' ∧ (True)
  | _, _ => False))
set_option maxRecDepth 100000 in
theorem k_X5_drawDither : vg_rok r_X5_drawDither := ⟨vg_inGW (i := 652) rfl rfl, vg_inGW (i := 76) rfl rfl, ⟨by decide, by decide⟩, plainFor_of_name (by decide), ⟨vg_inGW (i := 651) rfl rfl, vg_inGW (i := 7) rfl rfl⟩⟩
def r_X5_hold : vg_R := ((yX5_hold, cX5_hold, 3, (some .int), 1, 21, 1, [], false), (fun as σ => ∃ (r : Nat) (a1 : Int32), as = [.ref r, .int a1] ∧ r ∈ ([3, 22] : List Nat) ∧ Iv σ), (fun as σ v σ' => match as, v with
  | [.ref r, .int a1], some (.int v) => Iv σ' ∧ Kp σ σ' ∧ (True)
  | _, _ => False))
set_option maxRecDepth 100000 in
theorem k_X5_hold : vg_rok r_X5_hold := ⟨vg_inGW (i := 664) rfl rfl, vg_inGW (i := 76) rfl rfl, ⟨by decide, by decide⟩, plainFor_of_name (by decide), ⟨vg_inGW (i := 663) rfl rfl, vg_inGW (i := 9) rfl rfl⟩⟩
def r_X5_outOfSums : vg_R := ((yX5_outOfSums, cX5_outOfSums, 5, (some .int), 2, 44, 1, [], false), (fun as σ => ∃ (r : Nat) (a1 : Int32) (a2 : Int32), as = [.ref r, .int a1, .int a2] ∧ r ∈ ([3, 22] : List Nat) ∧ Iv σ), (fun as σ v σ' => match as, v with
  | [.ref r, .int a1, .int a2], some (.int v) => Iv σ' ∧ Kp σ σ' ∧ (True)
  | _, _ => False))
set_option maxRecDepth 100000 in
theorem k_X5_outOfSums : vg_rok r_X5_outOfSums := ⟨vg_inGW (i := 660) rfl rfl, vg_inGW (i := 76) rfl rfl, ⟨by decide, by decide⟩, plainFor_of_name (by decide), ⟨vg_inGW (i := 659) rfl rfl, vg_inGW (i := 8) rfl rfl⟩⟩
def r_X5_differenceOf : vg_R := ((yX5_differenceOf, cX5_differenceOf, 4, (some .int), 0, 0, 1, [], false), (fun as σ => ∃ (r : Nat) (a1 : Int32) (a2 : Int32), as = [.ref r, .int a1, .int a2] ∧ r ∈ ([3, 22] : List Nat) ∧ Iv σ), (fun as σ v σ' => match as, v with
  | [.ref r, .int a1, .int a2], some (.int v) => Iv σ' ∧ Kp σ σ' ∧ (True)
  | _, _ => False))
set_option maxRecDepth 100000 in
theorem k_X5_differenceOf : vg_rok r_X5_differenceOf := ⟨vg_inGW (i := 696) rfl rfl, vg_inGW (i := 76) rfl rfl, ⟨by decide, by decide⟩, plainFor_of_name (by decide), ⟨vg_inGW (i := 695) rfl rfl, vg_inGW (i := 11) rfl rfl⟩⟩
def r_X5_outOfCascade : vg_R := ((yX5_outOfCascade, cX5_outOfCascade, 8, (some .int), 2, 44, 1, [], false), (fun as σ => ∃ (r : Nat) (a1 : Int32) (a2 : Int32), as = [.ref r, .int a1, .int a2] ∧ r ∈ ([3, 22] : List Nat) ∧ Iv σ), (fun as σ v σ' => match as, v with
  | [.ref r, .int a1, .int a2], some (.int v) => Iv σ' ∧ Kp σ σ' ∧ (True)
  | _, _ => False))
set_option maxRecDepth 100000 in
theorem k_X5_outOfCascade : vg_rok r_X5_outOfCascade := ⟨vg_inGW (i := 684) rfl rfl, vg_inGW (i := 76) rfl rfl, ⟨by decide, by decide⟩, plainFor_of_name (by decide), ⟨vg_inGW (i := 683) rfl rfl, vg_inGW (i := 10) rfl rfl⟩⟩
def r_X5_shapedErrors : vg_R := ((yX5_shapedErrors, cX5_shapedErrors, 1, (some .int), 0, 0, 1, [], false), (fun as σ => ∃ (r : Nat), as = [.ref r] ∧ r ∈ ([3, 22] : List Nat) ∧ Iv σ), (fun as σ v σ' => match as, v with
  | [.ref r], some (.int v) => σ' = σ ∧ (True)
  | _, _ => False))
set_option maxRecDepth 100000 in
theorem k_X5_shapedErrors : vg_rok r_X5_shapedErrors := ⟨vg_inGW (i := 704) rfl rfl, vg_inGW (i := 76) rfl rfl, ⟨by decide, by decide⟩, plainFor_of_name (by decide), ⟨vg_inGW (i := 703) rfl rfl, vg_inGW (i := 13) rfl rfl⟩⟩
def r_X5_outOfErrors : vg_R := ((yX5_outOfErrors, cX5_outOfErrors, 7, (some .int), 2, 44, 1, [], false), (fun as σ => ∃ (r : Nat) (a1 : Int32) (a2 : Int32), as = [.ref r, .int a1, .int a2] ∧ r ∈ ([3, 22] : List Nat) ∧ Iv σ), (fun as σ v σ' => match as, v with
  | [.ref r, .int a1, .int a2], some (.int v) => Iv σ' ∧ Kp σ σ' ∧ (True)
  | _, _ => False))
set_option maxRecDepth 100000 in
theorem k_X5_outOfErrors : vg_rok r_X5_outOfErrors := ⟨vg_inGW (i := 700) rfl rfl, vg_inGW (i := 76) rfl rfl, ⟨by decide, by decide⟩, plainFor_of_name (by decide), ⟨vg_inGW (i := 699) rfl rfl, vg_inGW (i := 12) rfl rfl⟩⟩
def r_X5_outOf : vg_R := ((yX5_outOf, cX5_outOf, 3, (some .int), 3, 71, 1, [], false), (fun as σ => ∃ (r : Nat) (a1 : Int32), as = [.ref r, .int a1] ∧ r ∈ ([3, 22] : List Nat) ∧ Iv σ), (fun as σ v σ' => match as, v with
  | [.ref r, .int a1], some (.int v) => Iv σ' ∧ Kp σ σ' ∧ (True)
  | _, _ => False))
set_option maxRecDepth 100000 in
theorem k_X5_outOf : vg_rok r_X5_outOf := ⟨vg_inGW (i := 648) rfl rfl, vg_inGW (i := 76) rfl rfl, ⟨by decide, by decide⟩, plainFor_of_name (by decide), ⟨vg_inGW (i := 647) rfl rfl, vg_inGW (i := 6) rfl rfl⟩⟩
def r_X5_advance : vg_R := ((yX5_advance, cX5_advance, 3, (some .int), 4, 93, 1, [], false), (fun as σ => ∃ (r : Nat) (a1 : Int32), as = [.ref r, .int a1] ∧ r ∈ ([3, 22] : List Nat) ∧ Iv σ), (fun as σ v σ' => match as, v with
  | [.ref r, .int a1], some (.int v) => Iv σ' ∧ Kp σ σ' ∧ (True)
  | _, _ => False))
set_option maxRecDepth 100000 in
theorem k_X5_advance : vg_rok r_X5_advance := ⟨vg_inGW (i := 644) rfl rfl, vg_inGW (i := 76) rfl rfl, ⟨by decide, by decide⟩, plainFor_of_name (by decide), ⟨vg_inGW (i := 642) rfl rfl, vg_inGW (i := 643) rfl rfl⟩⟩
def r_X5_writeWords : vg_R := ((yX5_writeWords, cX5_writeWords, 3, none, 1, 31, 0, [], false), (fun as σ => ∃ (r : Nat) (a1 : Nat) (a2 : Int32), as = [.ref r, .ref a1, .int a2] ∧ r ∈ ([22] : List Nat) ∧ a1 ∈ ([33] : List Nat) ∧ Iv σ ∧ (0 ≤ a2.toInt ∧ a2.toInt ≤ 10000)), (fun as σ v σ' => match as, v with
  | [.ref r, .ref a1, .int a2], none => Iv σ' ∧ Kp σ σ' ∧ (True)
  | _, _ => False))
set_option maxRecDepth 100000 in
theorem k_X5_writeWords : vg_rok r_X5_writeWords := ⟨vg_inGW (i := 965) rfl rfl, vg_inGW (i := 76) rfl rfl, ⟨by decide, by decide⟩, plainFor_of_name (by decide), ⟨vg_inGW (i := 963) rfl rfl, vg_inGW (i := 964) rfl rfl⟩⟩
def r_X7_numberUnbound : vg_R := ((yX7_numberUnbound, cX7_numberUnbound, 2, (some .int), 1, 22, 1, [], false), (fun as σ => ∃ (r : Nat) (a1 : Int32), as = [.ref r, .int a1] ∧ r ∈ ([1] : List Nat) ∧ Iv σ), (fun as σ v σ' => match as, v with
  | [.ref r, .int a1], some (.int v) => σ' = σ ∧ (True)
  | _, _ => False))
set_option maxRecDepth 100000 in
theorem k_X7_numberUnbound : vg_rok r_X7_numberUnbound := ⟨vg_inGW (i := 627) rfl rfl, vg_inGW (i := 75) rfl rfl, ⟨by decide, by decide⟩, plainFor_of_name (by decide), ⟨vg_inGW (i := 626) rfl rfl, vg_inGW (i := 5) rfl rfl⟩⟩
def r_X7_numberAt : vg_R := ((yX7_numberAt, cX7_numberAt, 2, (some .int), 2, 43, 1, [], false), (fun as σ => ∃ (r : Nat) (a1 : Int32), as = [.ref r, .int a1] ∧ r ∈ ([1] : List Nat) ∧ Iv σ), (fun as σ v σ' => match as, v with
  | [.ref r, .int a1], some (.int v) => σ' = σ ∧ (True)
  | _, _ => False))
set_option maxRecDepth 100000 in
theorem k_X7_numberAt : vg_rok r_X7_numberAt := ⟨vg_inGW (i := 623) rfl rfl, vg_inGW (i := 75) rfl rfl, ⟨by decide, by decide⟩, plainFor_of_name (by decide), ⟨vg_inGW (i := 621) rfl rfl, vg_inGW (i := 622) rfl rfl⟩⟩
end
section
def o_J9_max_7cf53 : List vg_I := [(0, .iload_n 0, 1, 0, 0, 0, 0), (1, .iload_n 1, 1, 0, 0, 0, 0), (2, .if_icmp .lt 7, 3, 0, 0, 0, 0), (5, .iload_n 0, 1, 0, 0, 0, 0), (6, .goto 4, 3, 0, 0, 0, 0), (9, .iload_n 1, 1, 0, 0, 0, 0), (10, .ireturn, 1, 0, 0, 0, 0)]
set_option maxRecDepth 100000 in
set_option maxHeartbeats 4000000 in
theorem c_J9_max_7cf53 (l : Launch) (G : vg_G) (hp : vg_Hp G) : vg_Ct l G vg_sh r_J9_max_7cf53 := by
  refine vg_meth hp vg_sh_ok r_J9_max_7cf53 k_J9_max_7cf53 rfl (fun h => by cases h) o_J9_max_7cf53 [] false (by decide +kernel) (by decide +kernel) ⟨_, _, rfl, rfl⟩ (fun _ h => absurd h List.not_mem_nil) (fun h => by cases h) 600 ?_
  intro as s0 hpre
  obtain ⟨a1, a2, rfl, -⟩ := hpre
  refine ⟨Nat.le_of_ble_eq_true rfl, [], ?_, fun _ h => absurd h List.not_mem_nil⟩
  ·
    refine And.intro (fun c1 => ?_) (fun c1 => ?_)
    · have c1 : a1.toInt < a2.toInt := c1
      show s0 = s0 ∧ (a1.toInt ≤ a2.toInt ∧ a2.toInt ≤ a2.toInt ∧ (a2.toInt = a1.toInt ∨ a2.toInt = a2.toInt))
      exact ⟨rfl, (by first | trivial | omega | assumption)⟩
    · have c1 : ¬ (a1.toInt < a2.toInt) := c1
      show s0 = s0 ∧ (a1.toInt ≤ a1.toInt ∧ a2.toInt ≤ a1.toInt ∧ (a1.toInt = a1.toInt ∨ a1.toInt = a2.toInt))
      exact ⟨rfl, (by first | trivial | omega | assumption)⟩
def o_J9_min_7cf53 : List vg_I := [(0, .iload_n 0, 1, 0, 0, 0, 0), (1, .iload_n 1, 1, 0, 0, 0, 0), (2, .if_icmp .gt 7, 3, 0, 0, 0, 0), (5, .iload_n 0, 1, 0, 0, 0, 0), (6, .goto 4, 3, 0, 0, 0, 0), (9, .iload_n 1, 1, 0, 0, 0, 0), (10, .ireturn, 1, 0, 0, 0, 0)]
set_option maxRecDepth 100000 in
set_option maxHeartbeats 4000000 in
theorem c_J9_min_7cf53 (l : Launch) (G : vg_G) (hp : vg_Hp G) : vg_Ct l G vg_sh r_J9_min_7cf53 := by
  refine vg_meth hp vg_sh_ok r_J9_min_7cf53 k_J9_min_7cf53 rfl (fun h => by cases h) o_J9_min_7cf53 [] false (by decide +kernel) (by decide +kernel) ⟨_, _, rfl, rfl⟩ (fun _ h => absurd h List.not_mem_nil) (fun h => by cases h) 600 ?_
  intro as s0 hpre
  obtain ⟨a1, a2, rfl, -⟩ := hpre
  refine ⟨Nat.le_of_ble_eq_true rfl, [], ?_, fun _ h => absurd h List.not_mem_nil⟩
  ·
    refine And.intro (fun c1 => ?_) (fun c1 => ?_)
    · have c1 : a2.toInt < a1.toInt := c1
      show s0 = s0 ∧ (a2.toInt ≤ a1.toInt ∧ a2.toInt ≤ a2.toInt ∧ (a2.toInt = a1.toInt ∨ a2.toInt = a2.toInt))
      exact ⟨rfl, (by first | trivial | omega | assumption)⟩
    · have c1 : ¬ (a2.toInt < a1.toInt) := c1
      show s0 = s0 ∧ (a1.toInt ≤ a1.toInt ∧ a1.toInt ≤ a2.toInt ∧ (a1.toInt = a1.toInt ∨ a1.toInt = a2.toInt))
      exact ⟨rfl, (by first | trivial | omega | assumption)⟩
def o_J9_abs_0f7a4 : List vg_I := [(0, .iload_n 0, 1, 0, 0, 0, 0), (1, .ifCond .ge 8, 3, 0, 0, 0, 0), (4, .iload_n 0, 1, 0, 0, 0, 0), (5, .ineg, 1, 0, 0, 0, 0), (6, .goto 4, 3, 0, 0, 0, 0), (9, .iload_n 0, 1, 0, 0, 0, 0), (10, .ireturn, 1, 0, 0, 0, 0)]
set_option maxRecDepth 100000 in
set_option maxHeartbeats 4000000 in
theorem c_J9_abs_0f7a4 (l : Launch) (G : vg_G) (hp : vg_Hp G) : vg_Ct l G vg_sh r_J9_abs_0f7a4 := by
  refine vg_meth hp vg_sh_ok r_J9_abs_0f7a4 k_J9_abs_0f7a4 rfl (fun h => by cases h) o_J9_abs_0f7a4 [] false (by decide +kernel) (by decide +kernel) ⟨_, _, rfl, rfl⟩ (fun _ h => absurd h List.not_mem_nil) (fun h => by cases h) 600 ?_
  intro as s0 hpre
  obtain ⟨a1, rfl, -⟩ := hpre
  refine ⟨Nat.le_of_ble_eq_true rfl, [], ?_, fun _ h => absurd h List.not_mem_nil⟩
  ·
    refine And.intro (fun c1 => ?_) (fun c1 => ?_)
    · have c1 : 0 ≤ a1.toInt := c1
      show s0 = s0 ∧ (True)
      exact ⟨rfl, (trivial)⟩
    · have c1 : ¬ (0 ≤ a1.toInt) := c1
      intro v2 e3
      show s0 = s0 ∧ (True)
      exact ⟨rfl, (trivial)⟩
def o_J9_abs_067f4 : List vg_I := [(0, .lload_n 0, 1, 0, 0, 0, 0), (1, .lconst 0, 1, 0, 0, 0, 0), (2, .lcmp, 1, 0, 0, 0, 0), (3, .ifCond .ge 8, 3, 0, 0, 0, 0), (6, .lload_n 0, 1, 0, 0, 0, 0), (7, .lneg, 1, 0, 0, 0, 0), (8, .goto 4, 3, 0, 0, 0, 0), (11, .lload_n 0, 1, 0, 0, 0, 0), (12, .lreturn, 1, 0, 0, 0, 0)]
set_option maxRecDepth 100000 in
set_option maxHeartbeats 4000000 in
theorem c_J9_abs_067f4 (l : Launch) (G : vg_G) (hp : vg_Hp G) : vg_Ct l G vg_sh r_J9_abs_067f4 := by
  refine vg_meth hp vg_sh_ok r_J9_abs_067f4 k_J9_abs_067f4 rfl (fun h => by cases h) o_J9_abs_067f4 [] false (by decide +kernel) (by decide +kernel) ⟨_, _, rfl, rfl⟩ (fun _ h => absurd h List.not_mem_nil) (fun h => by cases h) 600 ?_
  intro as s0 hpre
  obtain ⟨a1, rfl, -⟩ := hpre
  refine ⟨Nat.le_of_ble_eq_true rfl, [], ?_, fun _ h => absurd h List.not_mem_nil⟩
  ·
    intro v1 e2
    refine And.intro (fun c3 => ?_) (fun c3 => ?_)
    · have c3 : 0 ≤ v1.toInt := c3
      show s0 = s0 ∧ (True)
      exact ⟨rfl, (trivial)⟩
    · have c3 : ¬ (0 ≤ v1.toInt) := c3
      intro v4 e5
      show s0 = s0 ∧ (True)
      exact ⟨rfl, (trivial)⟩
def o_J9_max_f86c9 : List vg_I := [(0, .lload_n 0, 1, 0, 0, 0, 0), (1, .lload_n 2, 1, 0, 0, 0, 0), (2, .lcmp, 1, 0, 0, 0, 0), (3, .ifCond .lt 7, 3, 0, 0, 0, 0), (6, .lload_n 0, 1, 0, 0, 0, 0), (7, .goto 4, 3, 0, 0, 0, 0), (10, .lload_n 2, 1, 0, 0, 0, 0), (11, .lreturn, 1, 0, 0, 0, 0)]
set_option maxRecDepth 100000 in
set_option maxHeartbeats 4000000 in
theorem c_J9_max_f86c9 (l : Launch) (G : vg_G) (hp : vg_Hp G) : vg_Ct l G vg_sh r_J9_max_f86c9 := by
  refine vg_meth hp vg_sh_ok r_J9_max_f86c9 k_J9_max_f86c9 rfl (fun h => by cases h) o_J9_max_f86c9 [] false (by decide +kernel) (by decide +kernel) ⟨_, _, rfl, rfl⟩ (fun _ h => absurd h List.not_mem_nil) (fun h => by cases h) 600 ?_
  intro as s0 hpre
  obtain ⟨a1, a2, rfl, -⟩ := hpre
  refine ⟨Nat.le_of_ble_eq_true rfl, [], ?_, fun _ h => absurd h List.not_mem_nil⟩
  ·
    intro v1 e2
    refine And.intro (fun c3 => ?_) (fun c3 => ?_)
    · have c3 : v1.toInt < 0 := c3
      show s0 = s0 ∧ (True)
      exact ⟨rfl, (trivial)⟩
    · have c3 : ¬ (v1.toInt < 0) := c3
      show s0 = s0 ∧ (True)
      exact ⟨rfl, (trivial)⟩
def o_J9_min_f86c9 : List vg_I := [(0, .lload_n 0, 1, 0, 0, 0, 0), (1, .lload_n 2, 1, 0, 0, 0, 0), (2, .lcmp, 1, 0, 0, 0, 0), (3, .ifCond .gt 7, 3, 0, 0, 0, 0), (6, .lload_n 0, 1, 0, 0, 0, 0), (7, .goto 4, 3, 0, 0, 0, 0), (10, .lload_n 2, 1, 0, 0, 0, 0), (11, .lreturn, 1, 0, 0, 0, 0)]
set_option maxRecDepth 100000 in
set_option maxHeartbeats 4000000 in
theorem c_J9_min_f86c9 (l : Launch) (G : vg_G) (hp : vg_Hp G) : vg_Ct l G vg_sh r_J9_min_f86c9 := by
  refine vg_meth hp vg_sh_ok r_J9_min_f86c9 k_J9_min_f86c9 rfl (fun h => by cases h) o_J9_min_f86c9 [] false (by decide +kernel) (by decide +kernel) ⟨_, _, rfl, rfl⟩ (fun _ h => absurd h List.not_mem_nil) (fun h => by cases h) 600 ?_
  intro as s0 hpre
  obtain ⟨a1, a2, rfl, -⟩ := hpre
  refine ⟨Nat.le_of_ble_eq_true rfl, [], ?_, fun _ h => absurd h List.not_mem_nil⟩
  ·
    intro v1 e2
    refine And.intro (fun c3 => ?_) (fun c3 => ?_)
    · have c3 : 0 < v1.toInt := c3
      show s0 = s0 ∧ (True)
      exact ⟨rfl, (trivial)⟩
    · have c3 : ¬ (0 < v1.toInt) := c3
      show s0 = s0 ∧ (True)
      exact ⟨rfl, (trivial)⟩
def o_J6_bitCount_0f7a4 : List vg_I := [(0, .iload_n 0, 1, 0, 0, 0, 0), (1, .iload_n 0, 1, 0, 0, 0, 0), (2, .iconst 1, 1, 0, 0, 0, 0), (3, .iushr, 1, 0, 0, 0, 0), (4, .ldc_w 265, 3, 996, 0, 0, 1431655765), (7, .iand, 1, 0, 0, 0, 0), (8, .isub, 1, 0, 0, 0, 0), (9, .istore_n 0, 1, 0, 0, 0, 0), (10, .iload_n 0, 1, 0, 0, 0, 0), (11, .ldc_w 266, 3, 997, 0, 0, 858993459), (14, .iand, 1, 0, 0, 0, 0), (15, .iload_n 0, 1, 0, 0, 0, 0), (16, .iconst 2, 1, 0, 0, 0, 0), (17, .iushr, 1, 0, 0, 0, 0), (18, .ldc_w 266, 3, 997, 0, 0, 858993459), (21, .iand, 1, 0, 0, 0, 0), (22, .iadd, 1, 0, 0, 0, 0), (23, .istore_n 0, 1, 0, 0, 0, 0), (24, .iload_n 0, 1, 0, 0, 0, 0), (25, .iload_n 0, 1, 0, 0, 0, 0), (26, .iconst 4, 1, 0, 0, 0, 0), (27, .iushr, 1, 0, 0, 0, 0), (28, .iadd, 1, 0, 0, 0, 0), (29, .ldc_w 267, 3, 998, 0, 0, 252645135), (32, .iand, 1, 0, 0, 0, 0), (33, .istore_n 0, 1, 0, 0, 0, 0), (34, .iload_n 0, 1, 0, 0, 0, 0), (35, .iload_n 0, 1, 0, 0, 0, 0), (36, .bipush 8, 2, 0, 0, 0, 0), (38, .iushr, 1, 0, 0, 0, 0), (39, .iadd, 1, 0, 0, 0, 0), (40, .istore_n 0, 1, 0, 0, 0, 0), (41, .iload_n 0, 1, 0, 0, 0, 0), (42, .iload_n 0, 1, 0, 0, 0, 0), (43, .bipush 16, 2, 0, 0, 0, 0), (45, .iushr, 1, 0, 0, 0, 0), (46, .iadd, 1, 0, 0, 0, 0), (47, .istore_n 0, 1, 0, 0, 0, 0), (48, .iload_n 0, 1, 0, 0, 0, 0), (49, .bipush 63, 2, 0, 0, 0, 0), (51, .iand, 1, 0, 0, 0, 0), (52, .ireturn, 1, 0, 0, 0, 0)]
set_option maxRecDepth 100000 in
set_option maxHeartbeats 4000000 in
theorem c_J6_bitCount_0f7a4 (l : Launch) (G : vg_G) (hp : vg_Hp G) : vg_Ct l G vg_sh r_J6_bitCount_0f7a4 := by
  refine vg_meth hp vg_sh_ok r_J6_bitCount_0f7a4 k_J6_bitCount_0f7a4 rfl (fun h => by cases h) o_J6_bitCount_0f7a4 [] false (by decide +kernel) (by decide +kernel) ⟨_, _, rfl, rfl⟩ (fun _ h => absurd h List.not_mem_nil) (fun h => by cases h) 600 ?_
  intro as s0 hpre
  obtain ⟨a1, rfl, -⟩ := hpre
  have z1 : (Int32.ofInt 1).toInt = 1 := by decide
  have z2 : (Int32.ofInt 2).toInt = 2 := by decide
  have z4 : (Int32.ofInt 4).toInt = 4 := by decide
  have z8 : (Int32.ofInt 8).toInt = 8 := by decide
  have z16 : (Int32.ofInt 16).toInt = 16 := by decide
  have z63 : (Int32.ofInt 63).toInt = 63 := by decide
  have z252645135 : (Int32.ofInt 252645135).toInt = 252645135 := by decide
  have z858993459 : (Int32.ofInt 858993459).toInt = 858993459 := by decide
  have z1431655765 : (Int32.ofInt 1431655765).toInt = 1431655765 := by decide
  refine ⟨Nat.le_of_ble_eq_true rfl, [], ?_, fun _ h => absurd h List.not_mem_nil⟩
  ·
    intro v1 e2
    intro v3 e4
    have b5 := vg_and e4 (by omega)
    intro v6 e7
    intro v8 e9
    have b10 := vg_and e9 (by omega)
    intro v11 e12
    intro v13 e14
    have b15 := vg_and e14 (by omega)
    intro v16 e17
    have b18 := vg_add e17 (by omega) (by omega)
    intro v19 e20
    intro v21 e22
    intro v23 e24
    have b25 := vg_and e24 (by omega)
    intro v26 e27
    intro v28 e29
    intro v30 e31
    intro v32 e33
    intro v34 e35
    have b36 := vg_and e35 (by omega)
    show s0 = s0 ∧ (True)
    exact ⟨rfl, (trivial)⟩
def o_J9_floorDiv_7cf53 : List vg_I := [(0, .iload_n 0, 1, 0, 0, 0, 0), (1, .iload_n 1, 1, 0, 0, 0, 0), (2, .idiv, 1, 0, 0, 0, 0), (3, .istore_n 2, 1, 0, 0, 0, 0), (4, .iload_n 0, 1, 0, 0, 0, 0), (5, .iload_n 1, 1, 0, 0, 0, 0), (6, .ixor, 1, 0, 0, 0, 0), (7, .ifCond .ge 14, 3, 0, 0, 0, 0), (10, .iload_n 2, 1, 0, 0, 0, 0), (11, .iload_n 1, 1, 0, 0, 0, 0), (12, .imul, 1, 0, 0, 0, 0), (13, .iload_n 0, 1, 0, 0, 0, 0), (14, .if_icmp .eq 7, 3, 0, 0, 0, 0), (17, .iload_n 2, 1, 0, 0, 0, 0), (18, .iconst 1, 1, 0, 0, 0, 0), (19, .isub, 1, 0, 0, 0, 0), (20, .ireturn, 1, 0, 0, 0, 0), (21, .iload_n 2, 1, 0, 0, 0, 0), (22, .ireturn, 1, 0, 0, 0, 0)]
set_option maxRecDepth 100000 in
set_option maxHeartbeats 4000000 in
theorem c_J9_floorDiv_7cf53 (l : Launch) (G : vg_G) (hp : vg_Hp G) : vg_Ct l G vg_sh r_J9_floorDiv_7cf53 := by
  refine vg_meth hp vg_sh_ok r_J9_floorDiv_7cf53 k_J9_floorDiv_7cf53 rfl (fun h => by cases h) o_J9_floorDiv_7cf53 [] false (by decide +kernel) (by decide +kernel) ⟨_, _, rfl, rfl⟩ (fun _ h => absurd h List.not_mem_nil) (fun h => by cases h) 600 ?_
  intro as s0 hpre
  obtain ⟨a1, a2, rfl, p0⟩ := hpre
  have z1 : (Int32.ofInt 1).toInt = 1 := by decide
  refine ⟨Nat.le_of_ble_eq_true rfl, [], ?_, fun _ h => absurd h List.not_mem_nil⟩
  ·
    refine And.intro (by omega) ?_
    intro v1 e2
    intro v3 e4
    refine And.intro (fun c5 => ?_) (fun c5 => ?_)
    · have c5 : 0 ≤ v3.toInt := c5
      show s0 = s0 ∧ (True)
      exact ⟨rfl, (trivial)⟩
    · have c5 : ¬ (0 ≤ v3.toInt) := c5
      intro v6 e7
      refine And.intro (fun c8 => ?_) (fun c8 => ?_)
      · have c8 : v6.toInt = a1.toInt := c8
        show s0 = s0 ∧ (True)
        exact ⟨rfl, (trivial)⟩
      · have c8 : ¬ (v6.toInt = a1.toInt) := c8
        intro v9 e10
        show s0 = s0 ∧ (True)
        exact ⟨rfl, (trivial)⟩
def o_J9_floorMod_7cf53 : List vg_I := [(0, .iload_n 0, 1, 0, 0, 0, 0), (1, .iload_n 1, 1, 0, 0, 0, 0), (2, .irem, 1, 0, 0, 0, 0), (3, .istore_n 2, 1, 0, 0, 0, 0), (4, .iload_n 0, 1, 0, 0, 0, 0), (5, .iload_n 1, 1, 0, 0, 0, 0), (6, .ixor, 1, 0, 0, 0, 0), (7, .ifCond .ge 11, 3, 0, 0, 0, 0), (10, .iload_n 2, 1, 0, 0, 0, 0), (11, .ifCond .eq 7, 3, 0, 0, 0, 0), (14, .iload_n 2, 1, 0, 0, 0, 0), (15, .iload_n 1, 1, 0, 0, 0, 0), (16, .iadd, 1, 0, 0, 0, 0), (17, .ireturn, 1, 0, 0, 0, 0), (18, .iload_n 2, 1, 0, 0, 0, 0), (19, .ireturn, 1, 0, 0, 0, 0)]
set_option maxRecDepth 100000 in
set_option maxHeartbeats 4000000 in
theorem c_J9_floorMod_7cf53 (l : Launch) (G : vg_G) (hp : vg_Hp G) : vg_Ct l G vg_sh r_J9_floorMod_7cf53 := by
  refine vg_meth hp vg_sh_ok r_J9_floorMod_7cf53 k_J9_floorMod_7cf53 rfl (fun h => by cases h) o_J9_floorMod_7cf53 [] false (by decide +kernel) (by decide +kernel) ⟨_, _, rfl, rfl⟩ (fun _ h => absurd h List.not_mem_nil) (fun h => by cases h) 600 ?_
  intro as s0 hpre
  obtain ⟨a1, a2, rfl, p0⟩ := hpre
  have ra2 := vg_rng a2
  refine ⟨Nat.le_of_ble_eq_true rfl, [], ?_, fun _ h => absurd h List.not_mem_nil⟩
  ·
    refine And.intro (by omega) ?_
    intro v1 e2
    have b3 := vg_remx e2 (by omega)
    intro v4 e5
    have b6 := vg_xor_sign e5 (by omega)
    refine And.intro (fun c7 => ?_) (fun c7 => ?_)
    · have c7 : 0 ≤ v4.toInt := c7
      show s0 = s0 ∧ (0 ≤ v1.toInt ∧ v1.toInt < a2.toInt)
      exact ⟨rfl, (by first | trivial | omega | assumption)⟩
    · have c7 : ¬ (0 ≤ v4.toInt) := c7
      refine And.intro (fun c8 => ?_) (fun c8 => ?_)
      · have c8 : v1.toInt = 0 := c8
        show s0 = s0 ∧ (0 ≤ v1.toInt ∧ v1.toInt < a2.toInt)
        exact ⟨rfl, (by first | trivial | omega | assumption)⟩
      · have c8 : ¬ (v1.toInt = 0) := c8
        intro v9 e10
        have b11 := vg_add e10 (by omega) (by omega)
        show s0 = s0 ∧ (0 ≤ v9.toInt ∧ v9.toInt < a2.toInt)
        exact ⟨rfl, (by first | trivial | omega | assumption)⟩
def o_J7_fill_53178 : List vg_I := [(0, .iconst 0, 1, 0, 0, 0, 0), (1, .istore_n 2, 1, 0, 0, 0, 0), (2, .aload_n 0, 1, 0, 0, 0, 0), (3, .arraylength, 1, 0, 0, 0, 0), (4, .istore_n 3, 1, 0, 0, 0, 0), (5, .iload_n 2, 1, 0, 0, 0, 0), (6, .iload_n 3, 1, 0, 0, 0, 0), (7, .if_icmp .ge 13, 3, 0, 0, 0, 0), (10, .aload_n 0, 1, 0, 0, 0, 0), (11, .iload_n 2, 1, 0, 0, 0, 0), (12, .iload_n 1, 1, 0, 0, 0, 0), (13, .iastore, 1, 0, 0, 0, 0), (14, .iinc 2 1, 3, 0, 0, 0, 0), (17, .goto (-12), 3, 0, 0, 0, 0), (20, .return_, 1, 0, 0, 0, 0)]
set_option maxRecDepth 100000 in
set_option maxHeartbeats 4000000 in
theorem c_J7_fill_53178 (l : Launch) (G : vg_G) (hp : vg_Hp G) : vg_Ct l G vg_sh r_J7_fill_53178 := by
  refine vg_meth hp vg_sh_ok r_J7_fill_53178 k_J7_fill_53178 rfl (fun h => by cases h) o_J7_fill_53178 [] false (by decide +kernel) (by decide +kernel) ⟨_, _, rfl, rfl⟩ (fun _ h => absurd h List.not_mem_nil) (fun h => by cases h) 600 ?_
  intro as s0 hpre
  obtain ⟨a1, a2, rfl, ha1, i0⟩ := hpre
  simp only [List.mem_cons, List.not_mem_nil, or_false] at ha1
  rcases ha1 with rfl | rfl | rfl | rfl | rfl | rfl | rfl | rfl | rfl | rfl | rfl | rfl | rfl | rfl
  ·
    have z0 : (Int32.ofInt 0).toInt = 0 := by decide
    have z1 : (Int32.ofInt 1).toInt = 1 := by decide
    have n76 : (Int32.ofNat 76).toInt = 76 := by decide
    refine ⟨Nat.le_of_ble_eq_true rfl, [(5, [true, true, true, true], (fun L t => ∃ (x2 : Int32) (x3 : Int32), L = [some (.ref 15), some (.int a2), some (.int x2), some (.int x3)] ∧ (0 : Int) ≤ x2.toInt ∧ x2.toInt ≤ (76 : Int) ∧ (76 : Int) ≤ x3.toInt ∧ x3.toInt ≤ (76 : Int) ∧ Iv t ∧ Kp s0 t), (fun L _ => (0 + (76 - (vg_li L 2).toInt) * 1000000000000).toNat))], ?_, List.forall_mem_cons.mpr ⟨?_, fun _ h => absurd h List.not_mem_nil⟩⟩
    ·
      exact ⟨rfl, ⟨(Int32.ofInt 0), (Int32.ofNat 76), rfl, (by omega), (by omega), (by omega), (by omega), i0, Kx.rf⟩, trivial⟩
    ·
      intro L s7 hL
      obtain ⟨w1, w4, rfl, b2, b3, b5, b6, i8, k9⟩ := hL
      refine And.intro (fun c10 => ?_) (fun c10 => ?_)
      · have c10 : w4.toInt ≤ w1.toInt := c10
        show Iv s7 ∧ Kp s0 s7 ∧ (True)
        exact ⟨i8, k9, (trivial)⟩
      · have c10 : ¬ (w4.toInt ≤ w1.toInt) := c10
        refine And.intro ⟨by omega, by omega⟩ ?_
        intro s11 e12
        have i13 : Iv s11 := Iv.a1 i8 e12 rfl
        have k14 : Kp s0 s11 := Kx.u1 k9 e12 rfl
        intro v15 e16
        have b17 := vg_add e16 (by omega) (by omega)
        exact ⟨rfl, ⟨v15, w4, rfl, (by omega), (by omega), (by omega), (by omega), i13, k14⟩, (by show (0 + (76 - v15.toInt) * 1000000000000).toNat < (0 + (76 - w1.toInt) * 1000000000000).toNat; omega)⟩
  ·
    have z0 : (Int32.ofInt 0).toInt = 0 := by decide
    have z1 : (Int32.ofInt 1).toInt = 1 := by decide
    have n16 : (Int32.ofNat 16).toInt = 16 := by decide
    refine ⟨Nat.le_of_ble_eq_true rfl, [(5, [true, true, true, true], (fun L t => ∃ (x2 : Int32) (x3 : Int32), L = [some (.ref 9), some (.int a2), some (.int x2), some (.int x3)] ∧ (0 : Int) ≤ x2.toInt ∧ x2.toInt ≤ (16 : Int) ∧ (16 : Int) ≤ x3.toInt ∧ x3.toInt ≤ (16 : Int) ∧ Iv t ∧ Kp s0 t), (fun L _ => (0 + (16 - (vg_li L 2).toInt) * 1000000000000).toNat))], ?_, List.forall_mem_cons.mpr ⟨?_, fun _ h => absurd h List.not_mem_nil⟩⟩
    ·
      exact ⟨rfl, ⟨(Int32.ofInt 0), (Int32.ofNat 16), rfl, (by omega), (by omega), (by omega), (by omega), i0, Kx.rf⟩, trivial⟩
    ·
      intro L s7 hL
      obtain ⟨w1, w4, rfl, b2, b3, b5, b6, i8, k9⟩ := hL
      refine And.intro (fun c10 => ?_) (fun c10 => ?_)
      · have c10 : w4.toInt ≤ w1.toInt := c10
        show Iv s7 ∧ Kp s0 s7 ∧ (True)
        exact ⟨i8, k9, (trivial)⟩
      · have c10 : ¬ (w4.toInt ≤ w1.toInt) := c10
        refine And.intro ⟨by omega, by omega⟩ ?_
        intro s11 e12
        have i13 : Iv s11 := Iv.a1 i8 e12 rfl
        have k14 : Kp s0 s11 := Kx.u1 k9 e12 rfl
        intro v15 e16
        have b17 := vg_add e16 (by omega) (by omega)
        exact ⟨rfl, ⟨v15, w4, rfl, (by omega), (by omega), (by omega), (by omega), i13, k14⟩, (by show (0 + (16 - v15.toInt) * 1000000000000).toNat < (0 + (16 - w1.toInt) * 1000000000000).toNat; omega)⟩
  ·
    have z0 : (Int32.ofInt 0).toInt = 0 := by decide
    have z1 : (Int32.ofInt 1).toInt = 1 := by decide
    have n16 : (Int32.ofNat 16).toInt = 16 := by decide
    refine ⟨Nat.le_of_ble_eq_true rfl, [(5, [true, true, true, true], (fun L t => ∃ (x2 : Int32) (x3 : Int32), L = [some (.ref 10), some (.int a2), some (.int x2), some (.int x3)] ∧ (0 : Int) ≤ x2.toInt ∧ x2.toInt ≤ (16 : Int) ∧ (16 : Int) ≤ x3.toInt ∧ x3.toInt ≤ (16 : Int) ∧ Iv t ∧ Kp s0 t), (fun L _ => (0 + (16 - (vg_li L 2).toInt) * 1000000000000).toNat))], ?_, List.forall_mem_cons.mpr ⟨?_, fun _ h => absurd h List.not_mem_nil⟩⟩
    ·
      exact ⟨rfl, ⟨(Int32.ofInt 0), (Int32.ofNat 16), rfl, (by omega), (by omega), (by omega), (by omega), i0, Kx.rf⟩, trivial⟩
    ·
      intro L s7 hL
      obtain ⟨w1, w4, rfl, b2, b3, b5, b6, i8, k9⟩ := hL
      refine And.intro (fun c10 => ?_) (fun c10 => ?_)
      · have c10 : w4.toInt ≤ w1.toInt := c10
        show Iv s7 ∧ Kp s0 s7 ∧ (True)
        exact ⟨i8, k9, (trivial)⟩
      · have c10 : ¬ (w4.toInt ≤ w1.toInt) := c10
        refine And.intro ⟨by omega, by omega⟩ ?_
        intro s11 e12
        have i13 : Iv s11 := Iv.a1 i8 e12 rfl
        have k14 : Kp s0 s11 := Kx.u1 k9 e12 rfl
        intro v15 e16
        have b17 := vg_add e16 (by omega) (by omega)
        exact ⟨rfl, ⟨v15, w4, rfl, (by omega), (by omega), (by omega), (by omega), i13, k14⟩, (by show (0 + (16 - v15.toInt) * 1000000000000).toNat < (0 + (16 - w1.toInt) * 1000000000000).toNat; omega)⟩
  ·
    have z0 : (Int32.ofInt 0).toInt = 0 := by decide
    have z1 : (Int32.ofInt 1).toInt = 1 := by decide
    have n16 : (Int32.ofNat 16).toInt = 16 := by decide
    refine ⟨Nat.le_of_ble_eq_true rfl, [(5, [true, true, true, true], (fun L t => ∃ (x2 : Int32) (x3 : Int32), L = [some (.ref 11), some (.int a2), some (.int x2), some (.int x3)] ∧ (0 : Int) ≤ x2.toInt ∧ x2.toInt ≤ (16 : Int) ∧ (16 : Int) ≤ x3.toInt ∧ x3.toInt ≤ (16 : Int) ∧ Iv t ∧ Kp s0 t), (fun L _ => (0 + (16 - (vg_li L 2).toInt) * 1000000000000).toNat))], ?_, List.forall_mem_cons.mpr ⟨?_, fun _ h => absurd h List.not_mem_nil⟩⟩
    ·
      exact ⟨rfl, ⟨(Int32.ofInt 0), (Int32.ofNat 16), rfl, (by omega), (by omega), (by omega), (by omega), i0, Kx.rf⟩, trivial⟩
    ·
      intro L s7 hL
      obtain ⟨w1, w4, rfl, b2, b3, b5, b6, i8, k9⟩ := hL
      refine And.intro (fun c10 => ?_) (fun c10 => ?_)
      · have c10 : w4.toInt ≤ w1.toInt := c10
        show Iv s7 ∧ Kp s0 s7 ∧ (True)
        exact ⟨i8, k9, (trivial)⟩
      · have c10 : ¬ (w4.toInt ≤ w1.toInt) := c10
        refine And.intro ⟨by omega, by omega⟩ ?_
        intro s11 e12
        have i13 : Iv s11 := Iv.a1 i8 e12 rfl
        have k14 : Kp s0 s11 := Kx.u1 k9 e12 rfl
        intro v15 e16
        have b17 := vg_add e16 (by omega) (by omega)
        exact ⟨rfl, ⟨v15, w4, rfl, (by omega), (by omega), (by omega), (by omega), i13, k14⟩, (by show (0 + (16 - v15.toInt) * 1000000000000).toNat < (0 + (16 - w1.toInt) * 1000000000000).toNat; omega)⟩
  ·
    have z0 : (Int32.ofInt 0).toInt = 0 := by decide
    have z1 : (Int32.ofInt 1).toInt = 1 := by decide
    have n16 : (Int32.ofNat 16).toInt = 16 := by decide
    refine ⟨Nat.le_of_ble_eq_true rfl, [(5, [true, true, true, true], (fun L t => ∃ (x2 : Int32) (x3 : Int32), L = [some (.ref 28), some (.int a2), some (.int x2), some (.int x3)] ∧ (0 : Int) ≤ x2.toInt ∧ x2.toInt ≤ (16 : Int) ∧ (16 : Int) ≤ x3.toInt ∧ x3.toInt ≤ (16 : Int) ∧ Iv t ∧ Kp s0 t), (fun L _ => (0 + (16 - (vg_li L 2).toInt) * 1000000000000).toNat))], ?_, List.forall_mem_cons.mpr ⟨?_, fun _ h => absurd h List.not_mem_nil⟩⟩
    ·
      exact ⟨rfl, ⟨(Int32.ofInt 0), (Int32.ofNat 16), rfl, (by omega), (by omega), (by omega), (by omega), i0, Kx.rf⟩, trivial⟩
    ·
      intro L s7 hL
      obtain ⟨w1, w4, rfl, b2, b3, b5, b6, i8, k9⟩ := hL
      refine And.intro (fun c10 => ?_) (fun c10 => ?_)
      · have c10 : w4.toInt ≤ w1.toInt := c10
        show Iv s7 ∧ Kp s0 s7 ∧ (True)
        exact ⟨i8, k9, (trivial)⟩
      · have c10 : ¬ (w4.toInt ≤ w1.toInt) := c10
        refine And.intro ⟨by omega, by omega⟩ ?_
        intro s11 e12
        have i13 : Iv s11 := Iv.a1 i8 e12 rfl
        have k14 : Kp s0 s11 := Kx.u1 k9 e12 rfl
        intro v15 e16
        have b17 := vg_add e16 (by omega) (by omega)
        exact ⟨rfl, ⟨v15, w4, rfl, (by omega), (by omega), (by omega), (by omega), i13, k14⟩, (by show (0 + (16 - v15.toInt) * 1000000000000).toNat < (0 + (16 - w1.toInt) * 1000000000000).toNat; omega)⟩
  ·
    have z0 : (Int32.ofInt 0).toInt = 0 := by decide
    have z1 : (Int32.ofInt 1).toInt = 1 := by decide
    have n16 : (Int32.ofNat 16).toInt = 16 := by decide
    refine ⟨Nat.le_of_ble_eq_true rfl, [(5, [true, true, true, true], (fun L t => ∃ (x2 : Int32) (x3 : Int32), L = [some (.ref 29), some (.int a2), some (.int x2), some (.int x3)] ∧ (0 : Int) ≤ x2.toInt ∧ x2.toInt ≤ (16 : Int) ∧ (16 : Int) ≤ x3.toInt ∧ x3.toInt ≤ (16 : Int) ∧ Iv t ∧ Kp s0 t), (fun L _ => (0 + (16 - (vg_li L 2).toInt) * 1000000000000).toNat))], ?_, List.forall_mem_cons.mpr ⟨?_, fun _ h => absurd h List.not_mem_nil⟩⟩
    ·
      exact ⟨rfl, ⟨(Int32.ofInt 0), (Int32.ofNat 16), rfl, (by omega), (by omega), (by omega), (by omega), i0, Kx.rf⟩, trivial⟩
    ·
      intro L s7 hL
      obtain ⟨w1, w4, rfl, b2, b3, b5, b6, i8, k9⟩ := hL
      refine And.intro (fun c10 => ?_) (fun c10 => ?_)
      · have c10 : w4.toInt ≤ w1.toInt := c10
        show Iv s7 ∧ Kp s0 s7 ∧ (True)
        exact ⟨i8, k9, (trivial)⟩
      · have c10 : ¬ (w4.toInt ≤ w1.toInt) := c10
        refine And.intro ⟨by omega, by omega⟩ ?_
        intro s11 e12
        have i13 : Iv s11 := Iv.a1 i8 e12 rfl
        have k14 : Kp s0 s11 := Kx.u1 k9 e12 rfl
        intro v15 e16
        have b17 := vg_add e16 (by omega) (by omega)
        exact ⟨rfl, ⟨v15, w4, rfl, (by omega), (by omega), (by omega), (by omega), i13, k14⟩, (by show (0 + (16 - v15.toInt) * 1000000000000).toNat < (0 + (16 - w1.toInt) * 1000000000000).toNat; omega)⟩
  ·
    have z0 : (Int32.ofInt 0).toInt = 0 := by decide
    have z1 : (Int32.ofInt 1).toInt = 1 := by decide
    have n16 : (Int32.ofNat 16).toInt = 16 := by decide
    refine ⟨Nat.le_of_ble_eq_true rfl, [(5, [true, true, true, true], (fun L t => ∃ (x2 : Int32) (x3 : Int32), L = [some (.ref 30), some (.int a2), some (.int x2), some (.int x3)] ∧ (0 : Int) ≤ x2.toInt ∧ x2.toInt ≤ (16 : Int) ∧ (16 : Int) ≤ x3.toInt ∧ x3.toInt ≤ (16 : Int) ∧ Iv t ∧ Kp s0 t), (fun L _ => (0 + (16 - (vg_li L 2).toInt) * 1000000000000).toNat))], ?_, List.forall_mem_cons.mpr ⟨?_, fun _ h => absurd h List.not_mem_nil⟩⟩
    ·
      exact ⟨rfl, ⟨(Int32.ofInt 0), (Int32.ofNat 16), rfl, (by omega), (by omega), (by omega), (by omega), i0, Kx.rf⟩, trivial⟩
    ·
      intro L s7 hL
      obtain ⟨w1, w4, rfl, b2, b3, b5, b6, i8, k9⟩ := hL
      refine And.intro (fun c10 => ?_) (fun c10 => ?_)
      · have c10 : w4.toInt ≤ w1.toInt := c10
        show Iv s7 ∧ Kp s0 s7 ∧ (True)
        exact ⟨i8, k9, (trivial)⟩
      · have c10 : ¬ (w4.toInt ≤ w1.toInt) := c10
        refine And.intro ⟨by omega, by omega⟩ ?_
        intro s11 e12
        have i13 : Iv s11 := Iv.a1 i8 e12 rfl
        have k14 : Kp s0 s11 := Kx.u1 k9 e12 rfl
        intro v15 e16
        have b17 := vg_add e16 (by omega) (by omega)
        exact ⟨rfl, ⟨v15, w4, rfl, (by omega), (by omega), (by omega), (by omega), i13, k14⟩, (by show (0 + (16 - v15.toInt) * 1000000000000).toNat < (0 + (16 - w1.toInt) * 1000000000000).toNat; omega)⟩
  ·
    have z0 : (Int32.ofInt 0).toInt = 0 := by decide
    have z1 : (Int32.ofInt 1).toInt = 1 := by decide
    have n4 : (Int32.ofNat 4).toInt = 4 := by decide
    refine ⟨Nat.le_of_ble_eq_true rfl, [(5, [true, true, true, true], (fun L t => ∃ (x2 : Int32) (x3 : Int32), L = [some (.ref 5), some (.int a2), some (.int x2), some (.int x3)] ∧ (0 : Int) ≤ x2.toInt ∧ x2.toInt ≤ (4 : Int) ∧ (4 : Int) ≤ x3.toInt ∧ x3.toInt ≤ (4 : Int) ∧ Iv t ∧ Kp s0 t), (fun L _ => (0 + (4 - (vg_li L 2).toInt) * 1000000000000).toNat))], ?_, List.forall_mem_cons.mpr ⟨?_, fun _ h => absurd h List.not_mem_nil⟩⟩
    ·
      exact ⟨rfl, ⟨(Int32.ofInt 0), (Int32.ofNat 4), rfl, (by omega), (by omega), (by omega), (by omega), i0, Kx.rf⟩, trivial⟩
    ·
      intro L s7 hL
      obtain ⟨w1, w4, rfl, b2, b3, b5, b6, i8, k9⟩ := hL
      refine And.intro (fun c10 => ?_) (fun c10 => ?_)
      · have c10 : w4.toInt ≤ w1.toInt := c10
        show Iv s7 ∧ Kp s0 s7 ∧ (True)
        exact ⟨i8, k9, (trivial)⟩
      · have c10 : ¬ (w4.toInt ≤ w1.toInt) := c10
        refine And.intro ⟨by omega, by omega⟩ ?_
        intro s11 e12
        have i13 : Iv s11 := Iv.a1 i8 e12 rfl
        have k14 : Kp s0 s11 := Kx.u1 k9 e12 rfl
        intro v15 e16
        have b17 := vg_add e16 (by omega) (by omega)
        exact ⟨rfl, ⟨v15, w4, rfl, (by omega), (by omega), (by omega), (by omega), i13, k14⟩, (by show (0 + (4 - v15.toInt) * 1000000000000).toNat < (0 + (4 - w1.toInt) * 1000000000000).toNat; omega)⟩
  ·
    have z0 : (Int32.ofInt 0).toInt = 0 := by decide
    have z1 : (Int32.ofInt 1).toInt = 1 := by decide
    have n6 : (Int32.ofNat 6).toInt = 6 := by decide
    refine ⟨Nat.le_of_ble_eq_true rfl, [(5, [true, true, true, true], (fun L t => ∃ (x2 : Int32) (x3 : Int32), L = [some (.ref 6), some (.int a2), some (.int x2), some (.int x3)] ∧ (0 : Int) ≤ x2.toInt ∧ x2.toInt ≤ (6 : Int) ∧ (6 : Int) ≤ x3.toInt ∧ x3.toInt ≤ (6 : Int) ∧ Iv t ∧ Kp s0 t), (fun L _ => (0 + (6 - (vg_li L 2).toInt) * 1000000000000).toNat))], ?_, List.forall_mem_cons.mpr ⟨?_, fun _ h => absurd h List.not_mem_nil⟩⟩
    ·
      exact ⟨rfl, ⟨(Int32.ofInt 0), (Int32.ofNat 6), rfl, (by omega), (by omega), (by omega), (by omega), i0, Kx.rf⟩, trivial⟩
    ·
      intro L s7 hL
      obtain ⟨w1, w4, rfl, b2, b3, b5, b6, i8, k9⟩ := hL
      refine And.intro (fun c10 => ?_) (fun c10 => ?_)
      · have c10 : w4.toInt ≤ w1.toInt := c10
        show Iv s7 ∧ Kp s0 s7 ∧ (True)
        exact ⟨i8, k9, (trivial)⟩
      · have c10 : ¬ (w4.toInt ≤ w1.toInt) := c10
        refine And.intro ⟨by omega, by omega⟩ ?_
        intro s11 e12
        have i13 : Iv s11 := Iv.a1 i8 e12 rfl
        have k14 : Kp s0 s11 := Kx.u1 k9 e12 rfl
        intro v15 e16
        have b17 := vg_add e16 (by omega) (by omega)
        exact ⟨rfl, ⟨v15, w4, rfl, (by omega), (by omega), (by omega), (by omega), i13, k14⟩, (by show (0 + (6 - v15.toInt) * 1000000000000).toNat < (0 + (6 - w1.toInt) * 1000000000000).toNat; omega)⟩
  ·
    have z0 : (Int32.ofInt 0).toInt = 0 := by decide
    have z1 : (Int32.ofInt 1).toInt = 1 := by decide
    have n4 : (Int32.ofNat 4).toInt = 4 := by decide
    refine ⟨Nat.le_of_ble_eq_true rfl, [(5, [true, true, true, true], (fun L t => ∃ (x2 : Int32) (x3 : Int32), L = [some (.ref 24), some (.int a2), some (.int x2), some (.int x3)] ∧ (0 : Int) ≤ x2.toInt ∧ x2.toInt ≤ (4 : Int) ∧ (4 : Int) ≤ x3.toInt ∧ x3.toInt ≤ (4 : Int) ∧ Iv t ∧ Kp s0 t), (fun L _ => (0 + (4 - (vg_li L 2).toInt) * 1000000000000).toNat))], ?_, List.forall_mem_cons.mpr ⟨?_, fun _ h => absurd h List.not_mem_nil⟩⟩
    ·
      exact ⟨rfl, ⟨(Int32.ofInt 0), (Int32.ofNat 4), rfl, (by omega), (by omega), (by omega), (by omega), i0, Kx.rf⟩, trivial⟩
    ·
      intro L s7 hL
      obtain ⟨w1, w4, rfl, b2, b3, b5, b6, i8, k9⟩ := hL
      refine And.intro (fun c10 => ?_) (fun c10 => ?_)
      · have c10 : w4.toInt ≤ w1.toInt := c10
        show Iv s7 ∧ Kp s0 s7 ∧ (True)
        exact ⟨i8, k9, (trivial)⟩
      · have c10 : ¬ (w4.toInt ≤ w1.toInt) := c10
        refine And.intro ⟨by omega, by omega⟩ ?_
        intro s11 e12
        have i13 : Iv s11 := Iv.a1 i8 e12 rfl
        have k14 : Kp s0 s11 := Kx.u1 k9 e12 rfl
        intro v15 e16
        have b17 := vg_add e16 (by omega) (by omega)
        exact ⟨rfl, ⟨v15, w4, rfl, (by omega), (by omega), (by omega), (by omega), i13, k14⟩, (by show (0 + (4 - v15.toInt) * 1000000000000).toNat < (0 + (4 - w1.toInt) * 1000000000000).toNat; omega)⟩
  ·
    have z0 : (Int32.ofInt 0).toInt = 0 := by decide
    have z1 : (Int32.ofInt 1).toInt = 1 := by decide
    have n6 : (Int32.ofNat 6).toInt = 6 := by decide
    refine ⟨Nat.le_of_ble_eq_true rfl, [(5, [true, true, true, true], (fun L t => ∃ (x2 : Int32) (x3 : Int32), L = [some (.ref 25), some (.int a2), some (.int x2), some (.int x3)] ∧ (0 : Int) ≤ x2.toInt ∧ x2.toInt ≤ (6 : Int) ∧ (6 : Int) ≤ x3.toInt ∧ x3.toInt ≤ (6 : Int) ∧ Iv t ∧ Kp s0 t), (fun L _ => (0 + (6 - (vg_li L 2).toInt) * 1000000000000).toNat))], ?_, List.forall_mem_cons.mpr ⟨?_, fun _ h => absurd h List.not_mem_nil⟩⟩
    ·
      exact ⟨rfl, ⟨(Int32.ofInt 0), (Int32.ofNat 6), rfl, (by omega), (by omega), (by omega), (by omega), i0, Kx.rf⟩, trivial⟩
    ·
      intro L s7 hL
      obtain ⟨w1, w4, rfl, b2, b3, b5, b6, i8, k9⟩ := hL
      refine And.intro (fun c10 => ?_) (fun c10 => ?_)
      · have c10 : w4.toInt ≤ w1.toInt := c10
        show Iv s7 ∧ Kp s0 s7 ∧ (True)
        exact ⟨i8, k9, (trivial)⟩
      · have c10 : ¬ (w4.toInt ≤ w1.toInt) := c10
        refine And.intro ⟨by omega, by omega⟩ ?_
        intro s11 e12
        have i13 : Iv s11 := Iv.a1 i8 e12 rfl
        have k14 : Kp s0 s11 := Kx.u1 k9 e12 rfl
        intro v15 e16
        have b17 := vg_add e16 (by omega) (by omega)
        exact ⟨rfl, ⟨v15, w4, rfl, (by omega), (by omega), (by omega), (by omega), i13, k14⟩, (by show (0 + (6 - v15.toInt) * 1000000000000).toNat < (0 + (6 - w1.toInt) * 1000000000000).toNat; omega)⟩
  ·
    have z0 : (Int32.ofInt 0).toInt = 0 := by decide
    have z1 : (Int32.ofInt 1).toInt = 1 := by decide
    have n16 : (Int32.ofNat 16).toInt = 16 := by decide
    refine ⟨Nat.le_of_ble_eq_true rfl, [(5, [true, true, true, true], (fun L t => ∃ (x2 : Int32) (x3 : Int32), L = [some (.ref 36), some (.int a2), some (.int x2), some (.int x3)] ∧ (0 : Int) ≤ x2.toInt ∧ x2.toInt ≤ (16 : Int) ∧ (16 : Int) ≤ x3.toInt ∧ x3.toInt ≤ (16 : Int) ∧ Iv t ∧ Kp s0 t), (fun L _ => (0 + (16 - (vg_li L 2).toInt) * 1000000000000).toNat))], ?_, List.forall_mem_cons.mpr ⟨?_, fun _ h => absurd h List.not_mem_nil⟩⟩
    ·
      exact ⟨rfl, ⟨(Int32.ofInt 0), (Int32.ofNat 16), rfl, (by omega), (by omega), (by omega), (by omega), i0, Kx.rf⟩, trivial⟩
    ·
      intro L s7 hL
      obtain ⟨w1, w4, rfl, b2, b3, b5, b6, i8, k9⟩ := hL
      refine And.intro (fun c10 => ?_) (fun c10 => ?_)
      · have c10 : w4.toInt ≤ w1.toInt := c10
        show Iv s7 ∧ Kp s0 s7 ∧ (True)
        exact ⟨i8, k9, (trivial)⟩
      · have c10 : ¬ (w4.toInt ≤ w1.toInt) := c10
        refine And.intro ⟨by omega, by omega⟩ ?_
        intro s11 e12
        have i13 : Iv s11 := Iv.a1 i8 e12 rfl
        have k14 : Kp s0 s11 := Kx.u1 k9 e12 rfl
        intro v15 e16
        have b17 := vg_add e16 (by omega) (by omega)
        exact ⟨rfl, ⟨v15, w4, rfl, (by omega), (by omega), (by omega), (by omega), i13, k14⟩, (by show (0 + (16 - v15.toInt) * 1000000000000).toNat < (0 + (16 - w1.toInt) * 1000000000000).toNat; omega)⟩
  ·
    have z0 : (Int32.ofInt 0).toInt = 0 := by decide
    have z1 : (Int32.ofInt 1).toInt = 1 := by decide
    have n16 : (Int32.ofNat 16).toInt = 16 := by decide
    refine ⟨Nat.le_of_ble_eq_true rfl, [(5, [true, true, true, true], (fun L t => ∃ (x2 : Int32) (x3 : Int32), L = [some (.ref 38), some (.int a2), some (.int x2), some (.int x3)] ∧ (0 : Int) ≤ x2.toInt ∧ x2.toInt ≤ (16 : Int) ∧ (16 : Int) ≤ x3.toInt ∧ x3.toInt ≤ (16 : Int) ∧ Iv t ∧ Kp s0 t), (fun L _ => (0 + (16 - (vg_li L 2).toInt) * 1000000000000).toNat))], ?_, List.forall_mem_cons.mpr ⟨?_, fun _ h => absurd h List.not_mem_nil⟩⟩
    ·
      exact ⟨rfl, ⟨(Int32.ofInt 0), (Int32.ofNat 16), rfl, (by omega), (by omega), (by omega), (by omega), i0, Kx.rf⟩, trivial⟩
    ·
      intro L s7 hL
      obtain ⟨w1, w4, rfl, b2, b3, b5, b6, i8, k9⟩ := hL
      refine And.intro (fun c10 => ?_) (fun c10 => ?_)
      · have c10 : w4.toInt ≤ w1.toInt := c10
        show Iv s7 ∧ Kp s0 s7 ∧ (True)
        exact ⟨i8, k9, (trivial)⟩
      · have c10 : ¬ (w4.toInt ≤ w1.toInt) := c10
        refine And.intro ⟨by omega, by omega⟩ ?_
        intro s11 e12
        have i13 : Iv s11 := Iv.a1 i8 e12 rfl
        have k14 : Kp s0 s11 := Kx.u1 k9 e12 rfl
        intro v15 e16
        have b17 := vg_add e16 (by omega) (by omega)
        exact ⟨rfl, ⟨v15, w4, rfl, (by omega), (by omega), (by omega), (by omega), i13, k14⟩, (by show (0 + (16 - v15.toInt) * 1000000000000).toNat < (0 + (16 - w1.toInt) * 1000000000000).toNat; omega)⟩
  ·
    have z0 : (Int32.ofInt 0).toInt = 0 := by decide
    have z1 : (Int32.ofInt 1).toInt = 1 := by decide
    have n16 : (Int32.ofNat 16).toInt = 16 := by decide
    refine ⟨Nat.le_of_ble_eq_true rfl, [(5, [true, true, true, true], (fun L t => ∃ (x2 : Int32) (x3 : Int32), L = [some (.ref 40), some (.int a2), some (.int x2), some (.int x3)] ∧ (0 : Int) ≤ x2.toInt ∧ x2.toInt ≤ (16 : Int) ∧ (16 : Int) ≤ x3.toInt ∧ x3.toInt ≤ (16 : Int) ∧ Iv t ∧ Kp s0 t), (fun L _ => (0 + (16 - (vg_li L 2).toInt) * 1000000000000).toNat))], ?_, List.forall_mem_cons.mpr ⟨?_, fun _ h => absurd h List.not_mem_nil⟩⟩
    ·
      exact ⟨rfl, ⟨(Int32.ofInt 0), (Int32.ofNat 16), rfl, (by omega), (by omega), (by omega), (by omega), i0, Kx.rf⟩, trivial⟩
    ·
      intro L s7 hL
      obtain ⟨w1, w4, rfl, b2, b3, b5, b6, i8, k9⟩ := hL
      refine And.intro (fun c10 => ?_) (fun c10 => ?_)
      · have c10 : w4.toInt ≤ w1.toInt := c10
        show Iv s7 ∧ Kp s0 s7 ∧ (True)
        exact ⟨i8, k9, (trivial)⟩
      · have c10 : ¬ (w4.toInt ≤ w1.toInt) := c10
        refine And.intro ⟨by omega, by omega⟩ ?_
        intro s11 e12
        have i13 : Iv s11 := Iv.a1 i8 e12 rfl
        have k14 : Kp s0 s11 := Kx.u1 k9 e12 rfl
        intro v15 e16
        have b17 := vg_add e16 (by omega) (by omega)
        exact ⟨rfl, ⟨v15, w4, rfl, (by omega), (by omega), (by omega), (by omega), i13, k14⟩, (by show (0 + (16 - v15.toInt) * 1000000000000).toNat < (0 + (16 - w1.toInt) * 1000000000000).toNat; omega)⟩
def o_J7_fill_53178_at34 : List vg_I := [(0, .iconst 0, 1, 0, 0, 0, 0), (1, .istore_n 2, 1, 0, 0, 0, 0), (2, .aload_n 0, 1, 0, 0, 0, 0), (3, .arraylength, 1, 0, 0, 0, 0), (4, .istore_n 3, 1, 0, 0, 0, 0), (5, .iload_n 2, 1, 0, 0, 0, 0), (6, .iload_n 3, 1, 0, 0, 0, 0), (7, .if_icmp .ge 13, 3, 0, 0, 0, 0), (10, .aload_n 0, 1, 0, 0, 0, 0), (11, .iload_n 2, 1, 0, 0, 0, 0), (12, .iload_n 1, 1, 0, 0, 0, 0), (13, .iastore, 1, 0, 0, 0, 0), (14, .iinc 2 1, 3, 0, 0, 0, 0), (17, .goto (-12), 3, 0, 0, 0, 0), (20, .return_, 1, 0, 0, 0, 0)]
set_option maxRecDepth 100000 in
set_option maxHeartbeats 4000000 in
theorem c_J7_fill_53178_at34 (l : Launch) (G : vg_G) (hp : vg_Hp G) : vg_Ct l G vg_sh r_J7_fill_53178_at34 := by
  refine vg_meth hp vg_sh_ok r_J7_fill_53178_at34 k_J7_fill_53178_at34 rfl (fun h => by cases h) o_J7_fill_53178_at34 [] false (by decide +kernel) (by decide +kernel) ⟨_, _, rfl, rfl⟩ (fun _ h => absurd h List.not_mem_nil) (fun h => by cases h) 600 ?_
  intro as s0 hpre
  obtain ⟨a1, a2, rfl, ha1, i0⟩ := hpre
  simp only [List.mem_cons, List.not_mem_nil, or_false] at ha1
  rcases ha1 with rfl
  ·
    have z0 : (Int32.ofInt 0).toInt = 0 := by decide
    have z1 : (Int32.ofInt 1).toInt = 1 := by decide
    have n2048 : (Int32.ofNat 2048).toInt = 2048 := by decide
    refine ⟨Nat.le_of_ble_eq_true rfl, [(5, [true, true, true, true], (fun L t => ∃ (x2 : Int32) (x3 : Int32), L = [some (.ref 34), some (.int a2), some (.int x2), some (.int x3)] ∧ (0 : Int) ≤ x2.toInt ∧ x2.toInt ≤ (2048 : Int) ∧ (2048 : Int) ≤ x3.toInt ∧ x3.toInt ≤ (2048 : Int) ∧ (∀ j : Nat, (j : Int) < x2.toInt → t.1 34 j = a2) ∧ Iv t ∧ Kr s0 t), (fun L _ => (0 + (2048 - (vg_li L 2).toInt) * 1000000000000).toNat))], ?_, List.forall_mem_cons.mpr ⟨?_, fun _ h => absurd h List.not_mem_nil⟩⟩
    ·
      exact ⟨rfl, ⟨(Int32.ofInt 0), (Int32.ofNat 2048), rfl, (by omega), (by omega), (by omega), (by omega), (by intro j hj; first | (exfalso; omega) | (rw [rfl]; exact vg_fst None (by omega) (by omega) hj)), i0, Kx.rf⟩, trivial⟩
    ·
      intro L s8 hL
      obtain ⟨w1, w4, rfl, b2, b3, b5, b6, x7, i9, k10⟩ := hL
      refine And.intro (fun c11 => ?_) (fun c11 => ?_)
      · have c11 : w4.toInt ≤ w1.toInt := c11
        show Iv s8 ∧ Kr s0 s8 ∧ (∀ j : Nat, j < 2048 → s8.1 34 j = a2)
        exact ⟨i9, k10, (fun j hj => x7 j (by omega))⟩
      · have c11 : ¬ (w4.toInt ≤ w1.toInt) := c11
        refine And.intro ⟨by omega, by omega⟩ ?_
        intro s12 e13
        have i14 : Iv s12 := Iv.a1 i9 e13 rfl
        have k15 : Kr s0 s12 := Kx.u1 k10 e13 rfl
        intro v16 e17
        have b18 := vg_add e17 (by omega) (by omega)
        exact ⟨rfl, ⟨v16, w4, rfl, (by omega), (by omega), (by omega), (by omega), (by intro j hj; first | (exfalso; omega) | (rw [e13]; exact vg_fst x7 (by omega) (by omega) hj)), i14, k15⟩, (by show (0 + (2048 - v16.toInt) * 1000000000000).toNat < (0 + (2048 - w1.toInt) * 1000000000000).toNat; omega)⟩
def o_J7_fill_d0a16 : List vg_I := [(0, .iconst 0, 1, 0, 0, 0, 0), (1, .istore_n 3, 1, 0, 0, 0, 0), (2, .aload_n 0, 1, 0, 0, 0, 0), (3, .arraylength, 1, 0, 0, 0, 0), (4, .istore 4, 2, 0, 0, 0, 0), (6, .iload_n 3, 1, 0, 0, 0, 0), (7, .iload 4, 2, 0, 0, 0, 0), (9, .if_icmp .ge 13, 3, 0, 0, 0, 0), (12, .aload_n 0, 1, 0, 0, 0, 0), (13, .iload_n 3, 1, 0, 0, 0, 0), (14, .lload_n 1, 1, 0, 0, 0, 0), (15, .lastore, 1, 0, 0, 0, 0), (16, .iinc 3 1, 3, 0, 0, 0, 0), (19, .goto (-13), 3, 0, 0, 0, 0), (22, .return_, 1, 0, 0, 0, 0)]
set_option maxRecDepth 100000 in
set_option maxHeartbeats 4000000 in
theorem c_J7_fill_d0a16 (l : Launch) (G : vg_G) (hp : vg_Hp G) : vg_Ct l G vg_sh r_J7_fill_d0a16 := by
  refine vg_meth hp vg_sh_ok r_J7_fill_d0a16 k_J7_fill_d0a16 rfl (fun h => by cases h) o_J7_fill_d0a16 [] false (by decide +kernel) (by decide +kernel) ⟨_, _, rfl, rfl⟩ (fun _ h => absurd h List.not_mem_nil) (fun h => by cases h) 600 ?_
  intro as s0 hpre
  obtain ⟨a1, a2, rfl, ha1, i0⟩ := hpre
  simp only [List.mem_cons, List.not_mem_nil, or_false] at ha1
  rcases ha1 with rfl | rfl
  ·
    have z0 : (Int32.ofInt 0).toInt = 0 := by decide
    have z1 : (Int32.ofInt 1).toInt = 1 := by decide
    have n5 : (Int32.ofNat 5).toInt = 5 := by decide
    refine ⟨Nat.le_of_ble_eq_true rfl, [(6, [true, true, false, true, true], (fun L t => ∃ (x3 : Int32) (x4 : Int32), L = [some (.ref 13), some (.long a2), none, some (.int x3), some (.int x4)] ∧ (0 : Int) ≤ x3.toInt ∧ x3.toInt ≤ (5 : Int) ∧ (5 : Int) ≤ x4.toInt ∧ x4.toInt ≤ (5 : Int) ∧ Iv t ∧ Kp s0 t), (fun L _ => (0 + (5 - (vg_li L 3).toInt) * 1000000000000).toNat))], ?_, List.forall_mem_cons.mpr ⟨?_, fun _ h => absurd h List.not_mem_nil⟩⟩
    ·
      exact ⟨rfl, ⟨(Int32.ofInt 0), (Int32.ofNat 5), rfl, (by omega), (by omega), (by omega), (by omega), i0, Kx.rf⟩, trivial⟩
    ·
      intro L s7 hL
      obtain ⟨w1, w4, rfl, b2, b3, b5, b6, i8, k9⟩ := hL
      refine And.intro (fun c10 => ?_) (fun c10 => ?_)
      · have c10 : w4.toInt ≤ w1.toInt := c10
        show Iv s7 ∧ Kp s0 s7 ∧ (True)
        exact ⟨i8, k9, (trivial)⟩
      · have c10 : ¬ (w4.toInt ≤ w1.toInt) := c10
        refine And.intro ⟨by omega, by omega⟩ ?_
        intro s11 e12
        have i13 : Iv s11 := Iv.u2 i8 e12
        have k14 : Kp s0 s11 := Kx.u2 k9 e12 (vg_kq_no ⟨rfl, rfl, rfl⟩).1
        intro v15 e16
        have b17 := vg_add e16 (by omega) (by omega)
        exact ⟨rfl, ⟨v15, w4, rfl, (by omega), (by omega), (by omega), (by omega), i13, k14⟩, (by show (0 + (5 - v15.toInt) * 1000000000000).toNat < (0 + (5 - w1.toInt) * 1000000000000).toNat; omega)⟩
  ·
    have z0 : (Int32.ofInt 0).toInt = 0 := by decide
    have z1 : (Int32.ofInt 1).toInt = 1 := by decide
    have n5 : (Int32.ofNat 5).toInt = 5 := by decide
    refine ⟨Nat.le_of_ble_eq_true rfl, [(6, [true, true, false, true, true], (fun L t => ∃ (x3 : Int32) (x4 : Int32), L = [some (.ref 14), some (.long a2), none, some (.int x3), some (.int x4)] ∧ (0 : Int) ≤ x3.toInt ∧ x3.toInt ≤ (5 : Int) ∧ (5 : Int) ≤ x4.toInt ∧ x4.toInt ≤ (5 : Int) ∧ Iv t ∧ Kp s0 t), (fun L _ => (0 + (5 - (vg_li L 3).toInt) * 1000000000000).toNat))], ?_, List.forall_mem_cons.mpr ⟨?_, fun _ h => absurd h List.not_mem_nil⟩⟩
    ·
      exact ⟨rfl, ⟨(Int32.ofInt 0), (Int32.ofNat 5), rfl, (by omega), (by omega), (by omega), (by omega), i0, Kx.rf⟩, trivial⟩
    ·
      intro L s7 hL
      obtain ⟨w1, w4, rfl, b2, b3, b5, b6, i8, k9⟩ := hL
      refine And.intro (fun c10 => ?_) (fun c10 => ?_)
      · have c10 : w4.toInt ≤ w1.toInt := c10
        show Iv s7 ∧ Kp s0 s7 ∧ (True)
        exact ⟨i8, k9, (trivial)⟩
      · have c10 : ¬ (w4.toInt ≤ w1.toInt) := c10
        refine And.intro ⟨by omega, by omega⟩ ?_
        intro s11 e12
        have i13 : Iv s11 := Iv.u2 i8 e12
        have k14 : Kp s0 s11 := Kx.u2 k9 e12 (vg_kq_no ⟨rfl, rfl, rfl⟩).1
        intro v15 e16
        have b17 := vg_add e16 (by omega) (by omega)
        exact ⟨rfl, ⟨v15, w4, rfl, (by omega), (by omega), (by omega), (by omega), i13, k14⟩, (by show (0 + (5 - v15.toInt) * 1000000000000).toNat < (0 + (5 - w1.toInt) * 1000000000000).toNat; omega)⟩
end
section
def o_X10_putTo : List vg_I := [(0, .iload_n 0, 1, 0, 0, 0, 0), (1, .iload_n 1, 1, 0, 0, 0, 0), (2, .if_icmp .le 5, 3, 0, 0, 0, 0), (5, .iload_n 1, 1, 0, 0, 0, 0), (6, .ireturn, 1, 0, 0, 0, 0), (7, .iload_n 0, 1, 0, 0, 0, 0), (8, .iload_n 1, 1, 0, 0, 0, 0), (9, .ineg, 1, 0, 0, 0, 0), (10, .if_icmp .ge 8, 3, 0, 0, 0, 0), (13, .iload_n 1, 1, 0, 0, 0, 0), (14, .ineg, 1, 0, 0, 0, 0), (15, .goto 4, 3, 0, 0, 0, 0), (18, .iload_n 0, 1, 0, 0, 0, 0), (19, .ireturn, 1, 0, 0, 0, 0)]
set_option maxRecDepth 100000 in
set_option maxHeartbeats 4000000 in
theorem c_X10_putTo (l : Launch) (G : vg_G) (hp : vg_Hp G) : vg_Ct l G vg_sh r_X10_putTo := by
  refine vg_meth hp vg_sh_ok r_X10_putTo k_X10_putTo rfl (fun h => by cases h) o_X10_putTo [] false (by decide +kernel) (by decide +kernel) ⟨_, _, rfl, rfl⟩ (fun _ h => absurd h List.not_mem_nil) (fun h => by cases h) 600 ?_
  intro as s0 hpre
  obtain ⟨a1, a2, rfl, -⟩ := hpre
  refine ⟨Nat.le_of_ble_eq_true rfl, [], ?_, fun _ h => absurd h List.not_mem_nil⟩
  ·
    refine And.intro (fun c1 => ?_) (fun c1 => ?_)
    · have c1 : a1.toInt ≤ a2.toInt := c1
      intro v2 e3
      refine And.intro (fun c4 => ?_) (fun c4 => ?_)
      · have c4 : v2.toInt ≤ a1.toInt := c4
        show s0 = s0 ∧ (True)
        exact ⟨rfl, (trivial)⟩
      · have c4 : ¬ (v2.toInt ≤ a1.toInt) := c4
        intro v5 e6
        show s0 = s0 ∧ (True)
        exact ⟨rfl, (trivial)⟩
    · have c1 : ¬ (a1.toInt ≤ a2.toInt) := c1
      show s0 = s0 ∧ (True)
      exact ⟨rfl, (trivial)⟩
def o_X10_within : List vg_I := [(0, .iload_n 0, 1, 0, 0, 0, 0), (1, .iload_n 1, 1, 0, 0, 0, 0), (2, .if_icmp .lt 12, 3, 0, 0, 0, 0), (5, .iload_n 0, 1, 0, 0, 0, 0), (6, .iload_n 2, 1, 0, 0, 0, 0), (7, .if_icmp .gt 7, 3, 0, 0, 0, 0), (10, .iconst 1, 1, 0, 0, 0, 0), (11, .goto 4, 3, 0, 0, 0, 0), (14, .iconst 0, 1, 0, 0, 0, 0), (15, .ireturn, 1, 0, 0, 0, 1)]
set_option maxRecDepth 100000 in
set_option maxHeartbeats 4000000 in
theorem c_X10_within (l : Launch) (G : vg_G) (hp : vg_Hp G) : vg_Ct l G vg_sh r_X10_within := by
  refine vg_meth hp vg_sh_ok r_X10_within k_X10_within rfl (fun h => by cases h) o_X10_within [] false (by decide +kernel) (by decide +kernel) ⟨_, _, rfl, rfl⟩ (fun _ h => absurd h List.not_mem_nil) (fun h => by cases h) 600 ?_
  intro as s0 hpre
  obtain ⟨a1, a2, a3, rfl, -⟩ := hpre
  have z0 : (Int32.ofInt 0).toInt = 0 := by decide
  have z1 : (Int32.ofInt 1).toInt = 1 := by decide
  refine ⟨Nat.le_of_ble_eq_true rfl, [], ?_, fun _ h => absurd h List.not_mem_nil⟩
  ·
    refine And.intro (fun c1 => ?_) (fun c1 => ?_)
    · have c1 : a1.toInt < a2.toInt := c1
      refine And.intro (by first | exact Or.inl rfl | exact Or.inr rfl | exact vg_01 (by omega) (by omega)) ?_
      show s0 = s0 ∧ (((Int32.ofInt 0).toInt = 1 ∧ a2.toInt ≤ a1.toInt ∧ a1.toInt ≤ a3.toInt) ∨ ((Int32.ofInt 0).toInt = 0 ∧ (a1.toInt < a2.toInt ∨ a3.toInt < a1.toInt)))
      exact ⟨rfl, (by first | trivial | omega | assumption)⟩
    · have c1 : ¬ (a1.toInt < a2.toInt) := c1
      refine And.intro (fun c2 => ?_) (fun c2 => ?_)
      · have c2 : a3.toInt < a1.toInt := c2
        refine And.intro (by first | exact Or.inl rfl | exact Or.inr rfl | exact vg_01 (by omega) (by omega)) ?_
        show s0 = s0 ∧ (((Int32.ofInt 0).toInt = 1 ∧ a2.toInt ≤ a1.toInt ∧ a1.toInt ≤ a3.toInt) ∨ ((Int32.ofInt 0).toInt = 0 ∧ (a1.toInt < a2.toInt ∨ a3.toInt < a1.toInt)))
        exact ⟨rfl, (by first | trivial | omega | assumption)⟩
      · have c2 : ¬ (a3.toInt < a1.toInt) := c2
        refine And.intro (by first | exact Or.inl rfl | exact Or.inr rfl | exact vg_01 (by omega) (by omega)) ?_
        show s0 = s0 ∧ (((Int32.ofInt 1).toInt = 1 ∧ a2.toInt ≤ a1.toInt ∧ a1.toInt ≤ a3.toInt) ∨ ((Int32.ofInt 1).toInt = 0 ∧ (a1.toInt < a2.toInt ∨ a3.toInt < a1.toInt)))
        exact ⟨rfl, (by first | trivial | omega | assumption)⟩
def o_X10_isNumber : List vg_I := [(0, .iload_n 0, 1, 0, 0, 0, 0), (1, .sipush (-30000), 3, 0, 0, 0, 0), (4, .sipush 30000, 3, 0, 0, 0, 0), (7, .invokestatic 82, 3, 0, 1, 3, 478), (10, .ireturn, 1, 0, 0, 0, 1)]
set_option maxRecDepth 100000 in
set_option maxHeartbeats 4000000 in
theorem c_X10_isNumber (l : Launch) (G : vg_G) (hp : vg_Hp G) : vg_Ct l G vg_sh r_X10_isNumber := by
  refine vg_meth hp vg_sh_ok r_X10_isNumber k_X10_isNumber rfl (fun h => by cases h) o_X10_isNumber [r_X10_within] false (by decide +kernel) (by decide +kernel) ⟨_, _, rfl, rfl⟩ (List.forall_mem_cons.mpr ⟨⟨c_X10_within l G hp, Nat.le_of_ble_eq_true rfl, Nat.le_of_ble_eq_true rfl⟩, fun _ h => absurd h List.not_mem_nil⟩) (fun h => by cases h) 600 ?_
  intro as s0 hpre
  obtain ⟨a1, rfl, -⟩ := hpre
  have zm30000 : (Int32.ofInt (-30000)).toInt = -30000 := by decide
  have z30000 : (Int32.ofInt 30000).toInt = 30000 := by decide
  refine ⟨Nat.le_of_ble_eq_true rfl, [], ?_, fun _ h => absurd h List.not_mem_nil⟩
  ·
    refine And.intro (Nat.le_of_ble_eq_true rfl) (And.intro ⟨a1, (Int32.ofInt (-30000)), (Int32.ofInt 30000), rfl, trivial⟩ ?_)
    intro v1 s3 h2
    have h2 : s3 = s0 ∧ ((v1.toInt = 1 ∧ (Int32.ofInt (-30000)).toInt ≤ a1.toInt ∧ a1.toInt ≤ (Int32.ofInt 30000).toInt) ∨ (v1.toInt = 0 ∧ (a1.toInt < (Int32.ofInt (-30000)).toInt ∨ (Int32.ofInt 30000).toInt < a1.toInt))) := h2
    have q6 := h2.1.symm
    subst q6
    have q7 := h2.2
    refine And.intro (by first | exact Or.inl rfl | exact Or.inr rfl | exact vg_01 (by omega) (by omega)) ?_
    show s0 = s0 ∧ ((v1.toInt = 1 ∧ -30000 ≤ a1.toInt ∧ a1.toInt ≤ 30000) ∨ (v1.toInt = 0 ∧ (a1.toInt < -30000 ∨ 30000 < a1.toInt)))
    exact ⟨rfl, (by first | trivial | omega | assumption)⟩
def o_X10_isTap : List vg_I := [(0, .iload_n 0, 1, 0, 0, 0, 0), (1, .sipush (-999), 3, 0, 0, 0, 0), (4, .sipush 999, 3, 0, 0, 0, 0), (7, .invokestatic 82, 3, 0, 1, 3, 478), (10, .ireturn, 1, 0, 0, 0, 1)]
set_option maxRecDepth 100000 in
set_option maxHeartbeats 4000000 in
theorem c_X10_isTap (l : Launch) (G : vg_G) (hp : vg_Hp G) : vg_Ct l G vg_sh r_X10_isTap := by
  refine vg_meth hp vg_sh_ok r_X10_isTap k_X10_isTap rfl (fun h => by cases h) o_X10_isTap [r_X10_within] false (by decide +kernel) (by decide +kernel) ⟨_, _, rfl, rfl⟩ (List.forall_mem_cons.mpr ⟨⟨c_X10_within l G hp, Nat.le_of_ble_eq_true rfl, Nat.le_of_ble_eq_true rfl⟩, fun _ h => absurd h List.not_mem_nil⟩) (fun h => by cases h) 600 ?_
  intro as s0 hpre
  obtain ⟨a1, rfl, -⟩ := hpre
  have zm999 : (Int32.ofInt (-999)).toInt = -999 := by decide
  have z999 : (Int32.ofInt 999).toInt = 999 := by decide
  refine ⟨Nat.le_of_ble_eq_true rfl, [], ?_, fun _ h => absurd h List.not_mem_nil⟩
  ·
    refine And.intro (Nat.le_of_ble_eq_true rfl) (And.intro ⟨a1, (Int32.ofInt (-999)), (Int32.ofInt 999), rfl, trivial⟩ ?_)
    intro v1 s3 h2
    have h2 : s3 = s0 ∧ ((v1.toInt = 1 ∧ (Int32.ofInt (-999)).toInt ≤ a1.toInt ∧ a1.toInt ≤ (Int32.ofInt 999).toInt) ∨ (v1.toInt = 0 ∧ (a1.toInt < (Int32.ofInt (-999)).toInt ∨ (Int32.ofInt 999).toInt < a1.toInt))) := h2
    have q6 := h2.1.symm
    subst q6
    have q7 := h2.2
    refine And.intro (by first | exact Or.inl rfl | exact Or.inr rfl | exact vg_01 (by omega) (by omega)) ?_
    show s0 = s0 ∧ ((v1.toInt = 1 ∧ -999 ≤ a1.toInt ∧ a1.toInt ≤ 999) ∨ (v1.toInt = 0 ∧ (a1.toInt < -999 ∨ 999 < a1.toInt)))
    exact ⟨rfl, (by first | trivial | omega | assumption)⟩
def o_X10_isStage : List vg_I := [(0, .iload_n 0, 1, 0, 0, 0, 0), (1, .iconst 0, 1, 0, 0, 0, 0), (2, .bipush 6, 2, 0, 0, 0, 0), (4, .invokestatic 82, 3, 0, 1, 3, 478), (7, .ireturn, 1, 0, 0, 0, 1)]
set_option maxRecDepth 100000 in
set_option maxHeartbeats 4000000 in
theorem c_X10_isStage (l : Launch) (G : vg_G) (hp : vg_Hp G) : vg_Ct l G vg_sh r_X10_isStage := by
  refine vg_meth hp vg_sh_ok r_X10_isStage k_X10_isStage rfl (fun h => by cases h) o_X10_isStage [r_X10_within] false (by decide +kernel) (by decide +kernel) ⟨_, _, rfl, rfl⟩ (List.forall_mem_cons.mpr ⟨⟨c_X10_within l G hp, Nat.le_of_ble_eq_true rfl, Nat.le_of_ble_eq_true rfl⟩, fun _ h => absurd h List.not_mem_nil⟩) (fun h => by cases h) 600 ?_
  intro as s0 hpre
  obtain ⟨a1, rfl, -⟩ := hpre
  have z0 : (Int32.ofInt 0).toInt = 0 := by decide
  have z6 : (Int32.ofInt 6).toInt = 6 := by decide
  refine ⟨Nat.le_of_ble_eq_true rfl, [], ?_, fun _ h => absurd h List.not_mem_nil⟩
  ·
    refine And.intro (Nat.le_of_ble_eq_true rfl) (And.intro ⟨a1, (Int32.ofInt 0), (Int32.ofInt 6), rfl, trivial⟩ ?_)
    intro v1 s3 h2
    have h2 : s3 = s0 ∧ ((v1.toInt = 1 ∧ (Int32.ofInt 0).toInt ≤ a1.toInt ∧ a1.toInt ≤ (Int32.ofInt 6).toInt) ∨ (v1.toInt = 0 ∧ (a1.toInt < (Int32.ofInt 0).toInt ∨ (Int32.ofInt 6).toInt < a1.toInt))) := h2
    have q6 := h2.1.symm
    subst q6
    have q7 := h2.2
    refine And.intro (by first | exact Or.inl rfl | exact Or.inr rfl | exact vg_01 (by omega) (by omega)) ?_
    show s0 = s0 ∧ ((v1.toInt = 1 ∧ 0 ≤ a1.toInt ∧ a1.toInt ≤ 6) ∨ (v1.toInt = 0 ∧ (a1.toInt < 0 ∨ 6 < a1.toInt)))
    exact ⟨rfl, (by first | trivial | omega | assumption)⟩
def o_X8_isKind : List vg_I := [(0, .iload_n 0, 1, 0, 0, 0, 0), (1, .iconst 0, 1, 0, 0, 0, 0), (2, .iconst 3, 1, 0, 0, 0, 0), (3, .invokestatic 13, 3, 0, 2, 3, 0), (6, .ireturn, 1, 0, 0, 0, 1)]
set_option maxRecDepth 100000 in
set_option maxHeartbeats 4000000 in
theorem c_X8_isKind (l : Launch) (G : vg_G) (hp : vg_Hp G) : vg_Ct l G vg_sh r_X8_isKind := by
  refine vg_meth hp vg_sh_ok r_X8_isKind k_X8_isKind rfl (fun h => by cases h) o_X8_isKind [r_X10_within] false (by decide +kernel) (by decide +kernel) ⟨_, _, rfl, rfl⟩ (List.forall_mem_cons.mpr ⟨⟨c_X10_within l G hp, Nat.le_of_ble_eq_true rfl, Nat.le_of_ble_eq_true rfl⟩, fun _ h => absurd h List.not_mem_nil⟩) (fun h => by cases h) 600 ?_
  intro as s0 hpre
  obtain ⟨a1, rfl, -⟩ := hpre
  have z0 : (Int32.ofInt 0).toInt = 0 := by decide
  have z3 : (Int32.ofInt 3).toInt = 3 := by decide
  refine ⟨Nat.le_of_ble_eq_true rfl, [], ?_, fun _ h => absurd h List.not_mem_nil⟩
  ·
    refine And.intro (Nat.le_of_ble_eq_true rfl) (And.intro ⟨a1, (Int32.ofInt 0), (Int32.ofInt 3), rfl, trivial⟩ ?_)
    intro v1 s3 h2
    have h2 : s3 = s0 ∧ ((v1.toInt = 1 ∧ (Int32.ofInt 0).toInt ≤ a1.toInt ∧ a1.toInt ≤ (Int32.ofInt 3).toInt) ∨ (v1.toInt = 0 ∧ (a1.toInt < (Int32.ofInt 0).toInt ∨ (Int32.ofInt 3).toInt < a1.toInt))) := h2
    have q6 := h2.1.symm
    subst q6
    have q7 := h2.2
    refine And.intro (by first | exact Or.inl rfl | exact Or.inr rfl | exact vg_01 (by omega) (by omega)) ?_
    show s0 = s0 ∧ ((v1.toInt = 1 ∧ 0 ≤ a1.toInt ∧ a1.toInt ≤ 3) ∨ (v1.toInt = 0 ∧ (a1.toInt < 0 ∨ 3 < a1.toInt)))
    exact ⟨rfl, (by first | trivial | omega | assumption)⟩
def o_X0_forget : List vg_I := [(0, .aload_n 0, 1, 0, 0, 0, 0), (1, .iconst 0, 1, 0, 0, 0, 0), (2, .putfield 13, 3, 353, 0, 1, 0), (5, .return_, 1, 0, 0, 0, 0)]
set_option maxRecDepth 100000 in
set_option maxHeartbeats 4000000 in
theorem c_X0_forget (l : Launch) (G : vg_G) (hp : vg_Hp G) : vg_Ct l G vg_sh r_X0_forget := by
  refine vg_meth hp vg_sh_ok r_X0_forget k_X0_forget rfl (fun h => by cases h) o_X0_forget [] false (by decide +kernel) (by decide +kernel) ⟨_, _, rfl, rfl⟩ (fun _ h => absurd h List.not_mem_nil) (fun h => by cases h) 600 ?_
  intro as s0 hpre
  obtain ⟨r, rfl, hr, i0⟩ := hpre
  simp only [List.mem_cons, List.not_mem_nil, or_false] at hr
  rcases hr with rfl
  ·
    have z0 : (Int32.ofInt 0).toInt = 0 := by decide
    refine ⟨Nat.le_of_ble_eq_true rfl, [], ?_, fun _ h => absurd h List.not_mem_nil⟩
    ·
      intro s1 e2
      have i3 : Iv s1 := Iv.c1 (lo := 0) (hi := 12) i0 e2 rfl (by omega) (by omega)
      have k4 : Ks s0 s1 := Kx.u1 Kx.rf e2 rfl
      show Iv s1 ∧ Ks s0 s1 ∧ (True)
      exact ⟨i3, k4, (trivial)⟩
def o_X0_add : List vg_I := [(0, .iconst 0, 1, 0, 0, 0, 0), (1, .istore_n 2, 1, 0, 0, 0, 0), (2, .iload_n 2, 1, 0, 0, 0, 0), (3, .aload_n 0, 1, 0, 0, 0, 0), (4, .getfield 13, 3, 353, 0, 1, 0), (7, .if_icmp .ge 20, 3, 0, 0, 0, 0), (10, .aload_n 0, 1, 0, 0, 0, 0), (11, .getfield 9, 3, 351, 0, 0, 0), (14, .iload_n 2, 1, 0, 0, 0, 0), (15, .iaload, 1, 0, 0, 0, 0), (16, .iload_n 1, 1, 0, 0, 0, 0), (17, .if_icmp .ne 4, 3, 0, 0, 0, 0), (20, .return_, 1, 0, 0, 0, 0), (21, .iinc 2 1, 3, 0, 0, 0, 0), (24, .goto (-22), 3, 0, 0, 0, 0), (27, .aload_n 0, 1, 0, 0, 0, 0), (28, .getfield 13, 3, 353, 0, 1, 0), (31, .bipush 12, 2, 0, 0, 0, 0), (33, .if_icmp .ne 28, 3, 0, 0, 0, 0), (36, .aload_n 0, 1, 0, 0, 0, 0), (37, .getfield 9, 3, 351, 0, 0, 0), (40, .iconst 1, 1, 0, 0, 0, 0), (41, .aload_n 0, 1, 0, 0, 0, 0), (42, .getfield 9, 3, 351, 0, 0, 0), (45, .iconst 0, 1, 0, 0, 0, 0), (46, .bipush 11, 2, 0, 0, 0, 0), (48, .invokestatic 17, 3, 0, 3, 0, 945), (51, .aload_n 0, 1, 0, 0, 0, 0), (52, .dup, 1, 0, 0, 0, 0), (53, .getfield 13, 3, 353, 0, 1, 0), (56, .iconst 1, 1, 0, 0, 0, 0), (57, .isub, 1, 0, 0, 0, 0), (58, .putfield 13, 3, 353, 0, 1, 0), (61, .aload_n 0, 1, 0, 0, 0, 0), (62, .getfield 9, 3, 351, 0, 0, 0), (65, .aload_n 0, 1, 0, 0, 0, 0), (66, .getfield 13, 3, 353, 0, 1, 0), (69, .iload_n 1, 1, 0, 0, 0, 0), (70, .iastore, 1, 0, 0, 0, 0), (71, .aload_n 0, 1, 0, 0, 0, 0), (72, .dup, 1, 0, 0, 0, 0), (73, .getfield 13, 3, 353, 0, 1, 0), (76, .iconst 1, 1, 0, 0, 0, 0), (77, .iadd, 1, 0, 0, 0, 0), (78, .putfield 13, 3, 353, 0, 1, 0), (81, .return_, 1, 0, 0, 0, 0)]
set_option maxRecDepth 100000 in
set_option maxHeartbeats 4000000 in
theorem c_X0_add (l : Launch) (G : vg_G) (hp : vg_Hp G) : vg_Ct l G vg_sh r_X0_add := by
  refine vg_meth hp vg_sh_ok r_X0_add k_X0_add rfl (fun h => by cases h) o_X0_add [] true (by decide +kernel) (by decide +kernel) ⟨_, _, rfl, rfl⟩ (fun _ h => absurd h List.not_mem_nil) (fun _ => ⟨⟨Nat.le_of_ble_eq_true rfl, Nat.le_of_ble_eq_true rfl⟩, vg_cpw_in⟩) 600 ?_
  intro as s0 hpre
  obtain ⟨r, a1, rfl, hr, i0⟩ := hpre
  simp only [List.mem_cons, List.not_mem_nil, or_false] at hr
  rcases hr with rfl
  ·
    have z0 : (Int32.ofInt 0).toInt = 0 := by decide
    have z1 : (Int32.ofInt 1).toInt = 1 := by decide
    have z11 : (Int32.ofInt 11).toInt = 11 := by decide
    have z12 : (Int32.ofInt 12).toInt = 12 := by decide
    refine ⟨Nat.le_of_ble_eq_true rfl, [(2, [true, true, true], (fun L t => ∃ (x2 : Int32), L = [some (.ref 20), some (.int a1), some (.int x2)] ∧ (0 : Int) ≤ x2.toInt ∧ x2.toInt ≤ (12 : Int) ∧ Iv t ∧ Ks s0 t), (fun L _ => (0 + (12 - (vg_li L 2).toInt) * 1000000000000).toNat))], ?_, List.forall_mem_cons.mpr ⟨?_, fun _ h => absurd h List.not_mem_nil⟩⟩
    ·
      exact ⟨rfl, ⟨(Int32.ofInt 0), rfl, (by omega), (by omega), i0, Kx.rf⟩, trivial⟩
    ·
      intro L s4 hL
      obtain ⟨w1, rfl, b2, b3, i5, k6⟩ := hL
      intro v7 e8
      have g9 : s4.1 20 1 = v7 := by rw [e8]
      have b10 : (0 : Int) ≤ v7.toInt ∧ v7.toInt ≤ 12 := by rw [e8]; exact Iv_20_1 i5
      refine And.intro (fun c11 => ?_) (fun c11 => ?_)
      · have c11 : v7.toInt ≤ w1.toInt := c11
        intro v12 e13
        have w14 : v7 = v12 := by rw [e13, g9]
        subst w14
        refine And.intro (fun c15 => ?_) (fun c15 => ?_)
        · have c15 : ¬ v7.toInt = (Int32.ofInt 12).toInt := c15
          intro v16 e17
          have w18 : v7 = v16 := by rw [e17, g9]
          subst w18
          refine And.intro ⟨by omega, by omega⟩ ?_
          intro s19 e20
          have i21 : Iv s19 := Iv.a1 i5 e20 rfl
          have k22 : Ks s0 s19 := Kx.u1 k6 e20 rfl
          intro v23 e24
          have w25 : v7 = v23 := by rw [e24, e20, vg_u1_ne (a := 20) (k := 21) (by decide), g9]
          subst w25
          intro v26 e27
          have b28 := vg_add e27 (by omega) (by omega)
          intro s29 e30
          have i31 : Iv s29 := Iv.c1 (lo := 0) (hi := 12) i21 e30 rfl (by omega) (by omega)
          have k32 : Ks s0 s29 := Kx.u1 k22 e30 rfl
          show Iv s29 ∧ Ks s0 s29 ∧ (True)
          exact ⟨i31, k32, (trivial)⟩
        · have c15 : ¬ (¬ v7.toInt = (Int32.ofInt 12).toInt) := c15
          refine And.intro (Nat.le_of_ble_eq_true rfl) (And.intro (by omega) (And.intro (by omega) (And.intro (by omega) (And.intro (by omega) (And.intro (by omega) ?_)))))
          intro s33 e34
          have i35 : Iv s33 := Iv.w1 i5 e34 rfl
          have k36 : Ks s0 s33 := Kx.w1 k6 e34 (fun _ => rfl)
          intro v37 e38
          have w39 : v7 = v37 := by rw [e38, e34, vg_w1_at (a := 20) (k := 21) (by decide), g9]
          subst w39
          intro v40 e41
          have b42 := vg_sub e41 (by omega) (by omega)
          intro s43 e44
          have i45 : Iv s43 := Iv.c1 (lo := 0) (hi := 12) i35 e44 rfl (by omega) (by omega)
          have k46 : Ks s0 s43 := Kx.u1 k36 e44 rfl
          intro v47 e48
          have w49 : v40 = v47 := by rw [e48, e44]; exact vg_u1_self.symm
          subst w49
          refine And.intro ⟨by omega, by omega⟩ ?_
          intro s50 e51
          have i52 : Iv s50 := Iv.a1 i45 e51 rfl
          have k53 : Ks s0 s50 := Kx.u1 k46 e51 rfl
          intro v54 e55
          have w56 : v40 = v54 := by rw [e55, e51, vg_u1_ne (a := 20) (k := 21) (by decide), e44]; exact vg_u1_self.symm
          subst w56
          intro v57 e58
          have b59 := vg_add e58 (by omega) (by omega)
          intro s60 e61
          have i62 : Iv s60 := Iv.c1 (lo := 0) (hi := 12) i52 e61 rfl (by omega) (by omega)
          have k63 : Ks s0 s60 := Kx.u1 k53 e61 rfl
          show Iv s60 ∧ Ks s0 s60 ∧ (True)
          exact ⟨i62, k63, (trivial)⟩
      · have c11 : ¬ (v7.toInt ≤ w1.toInt) := c11
        refine And.intro ⟨by omega, by omega⟩ ?_
        intro v64 e65
        refine And.intro (fun c66 => ?_) (fun c66 => ?_)
        · have c66 : ¬ v64.toInt = a1.toInt := c66
          intro v67 e68
          have b69 := vg_add e68 (by omega) (by omega)
          exact ⟨rfl, ⟨v67, rfl, (by omega), (by omega), i5, k6⟩, (by show (0 + (12 - v67.toInt) * 1000000000000).toNat < (0 + (12 - w1.toInt) * 1000000000000).toNat; omega)⟩
        · have c66 : ¬ (¬ v64.toInt = a1.toInt) := c66
          show Iv s4 ∧ Ks s0 s4 ∧ (True)
          exact ⟨i5, k6, (trivial)⟩
def o_X1_begin : List vg_I := [(0, .aload_n 0, 1, 0, 0, 0, 0), (1, .getfield 21, 3, 297, 1, 4, 0), (4, .lconst 0, 1, 0, 0, 0, 0), (5, .invokestatic 32, 3, 0, 1, 2, 512), (8, .aload_n 0, 1, 0, 0, 0, 0), (9, .getfield 25, 3, 299, 1, 5, 0), (12, .lconst 0, 1, 0, 0, 0, 0), (13, .invokestatic 32, 3, 0, 1, 2, 512), (16, .aload_n 0, 1, 0, 0, 0, 0), (17, .iconst 0, 1, 0, 0, 0, 0), (18, .putfield 38, 3, 300, 1, 6, 0), (21, .aload_n 0, 1, 0, 0, 0, 0), (22, .iconst 0, 1, 0, 0, 0, 0), (23, .putfield 41, 3, 301, 1, 7, 0), (26, .aload_n 0, 1, 0, 0, 0, 0), (27, .lconst 0, 1, 0, 0, 0, 0), (28, .putfield 44, 3, 303, 1, 8, 2), (31, .return_, 1, 0, 0, 0, 0)]
set_option maxRecDepth 100000 in
set_option maxHeartbeats 4000000 in
theorem c_X1_begin (l : Launch) (G : vg_G) (hp : vg_Hp G) : vg_Ct l G vg_sh r_X1_begin := by
  refine vg_meth hp vg_sh_ok r_X1_begin k_X1_begin rfl (fun h => by cases h) o_X1_begin [r_J7_fill_d0a16] false (by decide +kernel) (by decide +kernel) ⟨_, _, rfl, rfl⟩ (List.forall_mem_cons.mpr ⟨⟨c_J7_fill_d0a16 l G hp, Nat.le_of_ble_eq_true rfl, Nat.le_of_ble_eq_true rfl⟩, fun _ h => absurd h List.not_mem_nil⟩) (fun h => by cases h) 600 ?_
  intro as s0 hpre
  obtain ⟨r, rfl, hr, i0⟩ := hpre
  simp only [List.mem_cons, List.not_mem_nil, or_false] at hr
  rcases hr with rfl
  ·
    have z0 : (Int32.ofInt 0).toInt = 0 := by decide
    refine ⟨Nat.le_of_ble_eq_true rfl, [], ?_, fun _ h => absurd h List.not_mem_nil⟩
    ·
      refine And.intro (Nat.le_of_ble_eq_true rfl) (And.intro ⟨13, (Int64.ofNat 0), rfl, by decide, i0⟩ ?_)
      intro s2 h1
      have h1 : Iv s2 ∧ Kp s0 s2 ∧ (True) := h1
      have i3 := h1.1
      have k4 : Kp s0 s2 := Kx.tr Kx.rf (h1.2.1)
      refine And.intro (Nat.le_of_ble_eq_true rfl) (And.intro ⟨14, (Int64.ofNat 0), rfl, by decide, i3⟩ ?_)
      intro s6 h5
      have h5 : Iv s6 ∧ Kp s2 s6 ∧ (True) := h5
      have i7 := h5.1
      have k8 : Kp s0 s6 := Kx.tr k4 (h5.2.1)
      intro s9 e10
      have i11 : Iv s9 := Iv.u1 i7 e10 rfl
      have k12 : Kp s0 s9 := Kx.u1 k8 e10 rfl
      intro s13 e14
      have i15 : Iv s13 := Iv.u1 i11 e14 rfl
      have k16 : Kp s0 s13 := Kx.u1 k12 e14 rfl
      intro s17 e18
      have i19 : Iv s17 := Iv.u2 i15 e18
      have k20 : Kp s0 s17 := Kx.u2 k16 e18 (vg_kq_no ⟨rfl, rfl, rfl⟩).1
      show Iv s17 ∧ Kp s0 s17 ∧ (True)
      exact ⟨i19, k20, (trivial)⟩
def o_X1_cut : List vg_I := [(0, .bipush 64, 2, 0, 0, 0, 0), (2, .aload_n 0, 1, 0, 0, 0, 0), (3, .getfield 18, 3, 294, 1, 2, 0), (6, .isub, 1, 0, 0, 0, 0), (7, .istore_n 3, 1, 0, 0, 0, 0), (8, .lload_n 1, 1, 0, 0, 0, 0), (9, .iload_n 3, 1, 0, 0, 0, 0), (10, .lshl, 1, 0, 0, 0, 0), (11, .iload_n 3, 1, 0, 0, 0, 0), (12, .lshr, 1, 0, 0, 0, 0), (13, .l2i, 1, 0, 0, 0, 0), (14, .ireturn, 1, 0, 0, 0, 0)]
set_option maxRecDepth 100000 in
set_option maxHeartbeats 4000000 in
theorem c_X1_cut (l : Launch) (G : vg_G) (hp : vg_Hp G) : vg_Ct l G vg_sh r_X1_cut := by
  refine vg_meth hp vg_sh_ok r_X1_cut k_X1_cut rfl (fun h => by cases h) o_X1_cut [] false (by decide +kernel) (by decide +kernel) ⟨_, _, rfl, rfl⟩ (fun _ h => absurd h List.not_mem_nil) (fun h => by cases h) 600 ?_
  intro as s0 hpre
  obtain ⟨r, a1, rfl, hr, i0⟩ := hpre
  simp only [List.mem_cons, List.not_mem_nil, or_false] at hr
  rcases hr with rfl
  ·
    have z64 : (Int32.ofInt 64).toInt = 64 := by decide
    refine ⟨Nat.le_of_ble_eq_true rfl, [], ?_, fun _ h => absurd h List.not_mem_nil⟩
    ·
      intro v1 e2
      have g3 : s0.1 12 2 = v1 := by rw [e2]
      have b4 : (8 : Int) ≤ v1.toInt ∧ v1.toInt ≤ 32 := by rw [e2]; exact Iv_12_2 i0
      intro v5 e6
      have b7 := vg_sub e6 (by omega) (by omega)
      intro v8 e9
      intro v10 e11
      intro v12 e13
      show s0 = s0 ∧ (True)
      exact ⟨rfl, (trivial)⟩
def o_X1_number : List vg_I := [(0, .aload_n 0, 1, 0, 0, 0, 0), (1, .aload_n 0, 1, 0, 0, 0, 0), (2, .getfield 44, 3, 303, 1, 8, 0), (5, .invokevirtual 52, 3, 0, 1, 1, 758), (8, .ireturn, 1, 0, 0, 0, 0)]
set_option maxRecDepth 100000 in
set_option maxHeartbeats 4000000 in
theorem c_X1_number (l : Launch) (G : vg_G) (hp : vg_Hp G) : vg_Ct l G vg_sh r_X1_number := by
  refine vg_meth hp vg_sh_ok r_X1_number k_X1_number rfl (fun h => by cases h) o_X1_number [r_X1_cut] false (by decide +kernel) (by decide +kernel) ⟨_, _, rfl, rfl⟩ (List.forall_mem_cons.mpr ⟨⟨c_X1_cut l G hp, Nat.le_of_ble_eq_true rfl, Nat.le_of_ble_eq_true rfl⟩, fun _ h => absurd h List.not_mem_nil⟩) (fun h => by cases h) 600 ?_
  intro as s0 hpre
  obtain ⟨r, rfl, hr, i0⟩ := hpre
  simp only [List.mem_cons, List.not_mem_nil, or_false] at hr
  rcases hr with rfl
  ·
    refine ⟨Nat.le_of_ble_eq_true rfl, [], ?_, fun _ h => absurd h List.not_mem_nil⟩
    ·
      intro v1 e2
      refine And.intro (Nat.le_of_ble_eq_true rfl) (And.intro ⟨12, v1, rfl, by decide, i0⟩ ?_)
      intro v3 s5 h4
      have h4 : s5 = s0 ∧ (True) := h4
      have q8 := h4.1.symm
      subst q8
      show s0 = s0 ∧ (True)
      exact ⟨rfl, (trivial)⟩
def o_X1_take : List vg_I := [(0, .iload_n 1, 1, 0, 0, 0, 0), (1, .i2l, 1, 0, 0, 0, 0), (2, .lstore_n 2, 1, 0, 0, 0, 0), (3, .iconst 0, 1, 0, 0, 0, 0), (4, .istore 4, 2, 0, 0, 0, 0), (6, .iload 4, 2, 0, 0, 0, 0), (8, .aload_n 0, 1, 0, 0, 0, 0), (9, .getfield 11, 3, 290, 1, 0, 0), (12, .if_icmp .ge 28, 3, 0, 0, 0, 0), (15, .aload_n 0, 1, 0, 0, 0, 0), (16, .getfield 21, 3, 297, 1, 4, 0), (19, .iload 4, 2, 0, 0, 0, 0), (21, .dup2, 1, 0, 0, 0, 0), (22, .laload, 1, 0, 0, 0, 0), (23, .lload_n 2, 1, 0, 0, 0, 0), (24, .ladd, 1, 0, 0, 0, 0), (25, .lastore, 1, 0, 0, 0, 0), (26, .aload_n 0, 1, 0, 0, 0, 0), (27, .getfield 21, 3, 297, 1, 4, 0), (30, .iload 4, 2, 0, 0, 0, 0), (32, .laload, 1, 0, 0, 0, 0), (33, .lstore_n 2, 1, 0, 0, 0, 0), (34, .iinc 4 1, 3, 0, 0, 0, 0), (37, .goto (-31), 3, 0, 0, 0, 0), (40, .aload_n 0, 1, 0, 0, 0, 0), (41, .dup, 1, 0, 0, 0, 0), (42, .getfield 38, 3, 300, 1, 6, 0), (45, .iconst 1, 1, 0, 0, 0, 0), (46, .iadd, 1, 0, 0, 0, 0), (47, .putfield 38, 3, 300, 1, 6, 0), (50, .aload_n 0, 1, 0, 0, 0, 0), (51, .getfield 38, 3, 300, 1, 6, 0), (54, .aload_n 0, 1, 0, 0, 0, 0), (55, .getfield 15, 3, 292, 1, 1, 0), (58, .if_icmp .ge 5, 3, 0, 0, 0, 0), (61, .iconst 0, 1, 0, 0, 0, 0), (62, .ireturn, 1, 0, 0, 0, 1), (63, .aload_n 0, 1, 0, 0, 0, 0), (64, .iconst 0, 1, 0, 0, 0, 0), (65, .putfield 38, 3, 300, 1, 6, 0), (68, .iconst 0, 1, 0, 0, 0, 0), (69, .istore 4, 2, 0, 0, 0, 0), (71, .iload 4, 2, 0, 0, 0, 0), (73, .aload_n 0, 1, 0, 0, 0, 0), (74, .getfield 11, 3, 290, 1, 0, 0), (77, .if_icmp .ge 31, 3, 0, 0, 0, 0), (80, .aload_n 0, 1, 0, 0, 0, 0), (81, .getfield 25, 3, 299, 1, 5, 0), (84, .iload 4, 2, 0, 0, 0, 0), (86, .laload, 1, 0, 0, 0, 0), (87, .lstore 5, 2, 0, 0, 0, 0), (89, .aload_n 0, 1, 0, 0, 0, 0), (90, .getfield 25, 3, 299, 1, 5, 0), (93, .iload 4, 2, 0, 0, 0, 0), (95, .lload_n 2, 1, 0, 0, 0, 0), (96, .lastore, 1, 0, 0, 0, 0), (97, .lload_n 2, 1, 0, 0, 0, 0), (98, .lload 5, 2, 0, 0, 0, 0), (100, .lsub, 1, 0, 0, 0, 0), (101, .lstore_n 2, 1, 0, 0, 0, 0), (102, .iinc 4 1, 3, 0, 0, 0, 0), (105, .goto (-34), 3, 0, 0, 0, 0), (108, .aload_n 0, 1, 0, 0, 0, 0), (109, .lload_n 2, 1, 0, 0, 0, 0), (110, .putfield 44, 3, 303, 1, 8, 2), (113, .aload_n 0, 1, 0, 0, 0, 0), (114, .invokevirtual 48, 3, 0, 1, 0, 754), (117, .i2l, 1, 0, 0, 0, 0), (118, .aload_n 0, 1, 0, 0, 0, 0), (119, .getfield 44, 3, 303, 1, 8, 0), (122, .lcmp, 1, 0, 0, 0, 0), (123, .ifCond .eq 13, 3, 0, 0, 0, 0), (126, .aload_n 0, 1, 0, 0, 0, 0), (127, .dup, 1, 0, 0, 0, 0), (128, .getfield 41, 3, 301, 1, 7, 0), (131, .iconst 1, 1, 0, 0, 0, 0), (132, .iadd, 1, 0, 0, 0, 0), (133, .putfield 41, 3, 301, 1, 7, 0), (136, .iconst 1, 1, 0, 0, 0, 0), (137, .ireturn, 1, 0, 0, 0, 1)]
set_option maxRecDepth 100000 in
set_option maxHeartbeats 4000000 in
theorem c_X1_take (l : Launch) (G : vg_G) (hp : vg_Hp G) : vg_Ct l G vg_sh r_X1_take := by
  refine vg_meth hp vg_sh_ok r_X1_take k_X1_take rfl (fun h => by cases h) o_X1_take [r_X1_number] false (by decide +kernel) (by decide +kernel) ⟨_, _, rfl, rfl⟩ (List.forall_mem_cons.mpr ⟨⟨c_X1_number l G hp, Nat.le_of_ble_eq_true rfl, Nat.le_of_ble_eq_true rfl⟩, fun _ h => absurd h List.not_mem_nil⟩) (fun h => by cases h) 600 ?_
  intro as s0 hpre
  obtain ⟨r, a1, rfl, hr, i0⟩ := hpre
  simp only [List.mem_cons, List.not_mem_nil, or_false] at hr
  rcases hr with rfl
  ·
    have z0 : (Int32.ofInt 0).toInt = 0 := by decide
    have z1 : (Int32.ofInt 1).toInt = 1 := by decide
    refine ⟨Nat.le_of_ble_eq_true rfl, [(6, [true, false, true, false, true, false, false], (fun L t => ∃ (x2 : Int64) (x4 : Int32), L = [some (.ref 12), none, some (.long x2), none, some (.int x4), none, none] ∧ (0 : Int) ≤ x4.toInt ∧ x4.toInt ≤ (5 : Int) ∧ Iv t ∧ Kp s0 t), (fun L _ => (10000000000000000 + (5 - (vg_li L 4).toInt) * 1000000000000).toNat)), (71, [true, false, true, false, true, false, false], (fun L t => ∃ (x2 : Int64) (x4 : Int32), L = [some (.ref 12), none, some (.long x2), none, some (.int x4), none, none] ∧ (0 : Int) ≤ x4.toInt ∧ x4.toInt ≤ (5 : Int) ∧ Iv t ∧ Kp s0 t), (fun L _ => (0 + (5 - (vg_li L 4).toInt) * 1000000000000).toNat))], ?_, List.forall_mem_cons.mpr ⟨?_, List.forall_mem_cons.mpr ⟨?_, fun _ h => absurd h List.not_mem_nil⟩⟩⟩
    ·
      intro v1 e2
      exact ⟨rfl, ⟨v1, (Int32.ofInt 0), rfl, (by omega), (by omega), i0, Kx.rf⟩, trivial⟩
    ·
      intro L s7 hL
      obtain ⟨w3, w4, rfl, b5, b6, i8, k9⟩ := hL
      intro v10 e11
      have g12 : s7.1 12 0 = v10 := by rw [e11]
      have b13 : (1 : Int) ≤ v10.toInt ∧ v10.toInt ≤ 5 := by rw [e11]; exact Iv_12_0 i8
      refine And.intro (fun c14 => ?_) (fun c14 => ?_)
      · have c14 : v10.toInt ≤ w4.toInt := c14
        intro v15 e16
        have g17 : s7.1 12 6 = v15 := by rw [e16]
        intro v18 e19
        intro s20 e21
        have i22 : Iv s20 := Iv.u1 i8 e21 rfl
        have k23 : Kp s0 s20 := Kx.u1 k9 e21 rfl
        intro v24 e25
        have w26 : v18 = v24 := by rw [e25, e21]; exact vg_u1_self.symm
        subst w26
        intro v27 e28
        have g29 : s7.1 12 1 = v27 := by rw [e28, e21, vg_u1_at (a := 12) (b := 1) (k := 12) (i := 6) (by decide)]
        have b30 : (1 : Int) ≤ v27.toInt ∧ v27.toInt ≤ 16 := by rw [e28]; exact Iv_12_1 i22
        refine And.intro (fun c31 => ?_) (fun c31 => ?_)
        · have c31 : v27.toInt ≤ v18.toInt := c31
          intro s32 e33
          have i34 : Iv s32 := Iv.u1 i22 e33 rfl
          have k35 : Kp s0 s32 := Kx.u1 k23 e33 rfl
          exact ⟨rfl, ⟨w3, (Int32.ofInt 0), rfl, (by omega), (by omega), i34, k35⟩, (by show (0 + (5 - (Int32.ofInt 0).toInt) * 1000000000000).toNat < (10000000000000000 + (5 - w4.toInt) * 1000000000000).toNat; omega)⟩
        · have c31 : ¬ (v27.toInt ≤ v18.toInt) := c31
          refine And.intro (by first | exact Or.inl rfl | exact Or.inr rfl | exact vg_01 (by omega) (by omega)) ?_
          show Iv s20 ∧ Kp s0 s20 ∧ (True)
          exact ⟨i22, k23, (trivial)⟩
      · have c14 : ¬ (v10.toInt ≤ w4.toInt) := c14
        refine And.intro ⟨by omega, by omega⟩ ?_
        intro v36 e37
        intro v38 e39
        refine And.intro ⟨by omega, by omega⟩ ?_
        intro s40 e41
        have i42 : Iv s40 := Iv.u2 i8 e41
        have k43 : Kp s0 s40 := Kx.u2 k9 e41 (vg_kq_no ⟨rfl, rfl, rfl⟩).1
        refine And.intro ⟨by omega, by omega⟩ ?_
        intro v44 e45
        intro v46 e47
        have b48 := vg_add e47 (by omega) (by omega)
        exact ⟨rfl, ⟨v44, v46, rfl, (by omega), (by omega), i42, k43⟩, (by show (10000000000000000 + (5 - v46.toInt) * 1000000000000).toNat < (10000000000000000 + (5 - w4.toInt) * 1000000000000).toNat; omega)⟩
    ·
      intro L s53 hL
      obtain ⟨w49, w50, rfl, b51, b52, i54, k55⟩ := hL
      intro v56 e57
      have g58 : s53.1 12 0 = v56 := by rw [e57]
      have b59 : (1 : Int) ≤ v56.toInt ∧ v56.toInt ≤ 5 := by rw [e57]; exact Iv_12_0 i54
      refine And.intro (fun c60 => ?_) (fun c60 => ?_)
      · have c60 : v56.toInt ≤ w50.toInt := c60
        intro s61 e62
        have i63 : Iv s61 := Iv.u2 i54 e62
        have k64 : Kp s0 s61 := Kx.u2 k55 e62 (vg_kq_no ⟨rfl, rfl, rfl⟩).1
        refine And.intro (Nat.le_of_ble_eq_true rfl) (And.intro ⟨12, rfl, by decide, i63⟩ ?_)
        intro v65 s67 h66
        have h66 : s67 = s61 ∧ (True) := h66
        have q70 := h66.1.symm
        subst q70
        intro v71 e72
        intro v73 e74
        intro v75 e76
        refine And.intro (fun c77 => ?_) (fun c77 => ?_)
        · have c77 : v75.toInt = 0 := c77
          refine And.intro (by first | exact Or.inl rfl | exact Or.inr rfl | exact vg_01 (by omega) (by omega)) ?_
          show Iv s61 ∧ Kp s0 s61 ∧ (True)
          exact ⟨i63, k64, (trivial)⟩
        · have c77 : ¬ (v75.toInt = 0) := c77
          intro v78 e79
          have g80 : s53.1 12 7 = v78 := by rw [e79, e62, vg_u2_1]
          intro v81 e82
          intro s83 e84
          have i85 : Iv s83 := Iv.u1 i63 e84 rfl
          have k86 : Kp s0 s83 := Kx.u1 k64 e84 rfl
          refine And.intro (by first | exact Or.inl rfl | exact Or.inr rfl | exact vg_01 (by omega) (by omega)) ?_
          show Iv s83 ∧ Kp s0 s83 ∧ (True)
          exact ⟨i85, k86, (trivial)⟩
      · have c60 : ¬ (v56.toInt ≤ w50.toInt) := c60
        refine And.intro ⟨by omega, by omega⟩ ?_
        intro v87 e88
        refine And.intro ⟨by omega, by omega⟩ ?_
        intro s89 e90
        have i91 : Iv s89 := Iv.u2 i54 e90
        have k92 : Kp s0 s89 := Kx.u2 k55 e90 (vg_kq_no ⟨rfl, rfl, rfl⟩).1
        intro v93 e94
        intro v95 e96
        have b97 := vg_add e96 (by omega) (by omega)
        exact ⟨rfl, ⟨v93, v95, rfl, (by omega), (by omega), i91, k92⟩, (by show (0 + (5 - v95.toInt) * 1000000000000).toNat < (0 + (5 - w50.toInt) * 1000000000000).toNat; omega)⟩
def o_X1_leastWidth : List vg_I := [(0, .iload_n 1, 1, 0, 0, 0, 0), (1, .i2l, 1, 0, 0, 0, 0), (2, .lstore_n 2, 1, 0, 0, 0, 0), (3, .iconst 0, 1, 0, 0, 0, 0), (4, .istore 4, 2, 0, 0, 0, 0), (6, .iload 4, 2, 0, 0, 0, 0), (8, .aload_n 0, 1, 0, 0, 0, 0), (9, .getfield 11, 3, 290, 1, 0, 0), (12, .if_icmp .ge 17, 3, 0, 0, 0, 0), (15, .lload_n 2, 1, 0, 0, 0, 0), (16, .aload_n 0, 1, 0, 0, 0, 0), (17, .getfield 15, 3, 292, 1, 1, 0), (20, .i2l, 1, 0, 0, 0, 0), (21, .lmul, 1, 0, 0, 0, 0), (22, .lstore_n 2, 1, 0, 0, 0, 0), (23, .iinc 4 1, 3, 0, 0, 0, 0), (26, .goto (-20), 3, 0, 0, 0, 0), (29, .bipush 8, 2, 0, 0, 0, 0), (31, .istore 4, 2, 0, 0, 0, 0), (33, .iload 4, 2, 0, 0, 0, 0), (35, .bipush 32, 2, 0, 0, 0, 0), (37, .if_icmp .gt 23, 3, 0, 0, 0, 0), (40, .lload_n 2, 1, 0, 0, 0, 0), (41, .lconst 1, 1, 0, 0, 0, 0), (42, .iload 4, 2, 0, 0, 0, 0), (44, .iconst 1, 1, 0, 0, 0, 0), (45, .isub, 1, 0, 0, 0, 0), (46, .lshl, 1, 0, 0, 0, 0), (47, .lcmp, 1, 0, 0, 0, 0), (48, .ifCond .ge 6, 3, 0, 0, 0, 0), (51, .iload 4, 2, 0, 0, 0, 0), (53, .ireturn, 1, 0, 0, 0, 0), (54, .iinc 4 1, 3, 0, 0, 0, 0), (57, .goto (-24), 3, 0, 0, 0, 0), (60, .iconst (-1), 1, 0, 0, 0, 0), (61, .ireturn, 1, 0, 0, 0, 0)]
set_option maxRecDepth 100000 in
set_option maxHeartbeats 4000000 in
theorem c_X1_leastWidth (l : Launch) (G : vg_G) (hp : vg_Hp G) : vg_Ct l G vg_sh r_X1_leastWidth := by
  refine vg_meth hp vg_sh_ok r_X1_leastWidth k_X1_leastWidth rfl (fun h => by cases h) o_X1_leastWidth [] false (by decide +kernel) (by decide +kernel) ⟨_, _, rfl, rfl⟩ (fun _ h => absurd h List.not_mem_nil) (fun h => by cases h) 600 ?_
  intro as s0 hpre
  obtain ⟨r, a1, rfl, hr, i0⟩ := hpre
  simp only [List.mem_cons, List.not_mem_nil, or_false] at hr
  rcases hr with rfl
  ·
    have zm1 : (Int32.ofInt (-1)).toInt = -1 := by decide
    have z0 : (Int32.ofInt 0).toInt = 0 := by decide
    have z1 : (Int32.ofInt 1).toInt = 1 := by decide
    have z8 : (Int32.ofInt 8).toInt = 8 := by decide
    have z32 : (Int32.ofInt 32).toInt = 32 := by decide
    refine ⟨Nat.le_of_ble_eq_true rfl, [(6, [true, false, true, false, true], (fun L t => ∃ (x2 : Int64) (x4 : Int32), L = [some (.ref 12), none, some (.long x2), none, some (.int x4)] ∧ (0 : Int) ≤ x4.toInt ∧ x4.toInt ≤ (5 : Int) ∧ t = s0), (fun L _ => (10000000000000000 + (5 - (vg_li L 4).toInt) * 1000000000000).toNat)), (33, [false, false, true, false, true], (fun L t => ∃ (x2 : Int64) (x4 : Int32), L = [none, none, some (.long x2), none, some (.int x4)] ∧ (8 : Int) ≤ x4.toInt ∧ x4.toInt ≤ (33 : Int) ∧ t = s0), (fun L _ => (0 + (33 - (vg_li L 4).toInt) * 1000000000000).toNat))], ?_, List.forall_mem_cons.mpr ⟨?_, List.forall_mem_cons.mpr ⟨?_, fun _ h => absurd h List.not_mem_nil⟩⟩⟩
    ·
      intro v1 e2
      exact ⟨rfl, ⟨v1, (Int32.ofInt 0), rfl, (by omega), (by omega), rfl⟩, trivial⟩
    ·
      intro L s7 hL
      obtain ⟨w3, w4, rfl, b5, b6, q10⟩ := hL
      have q10 := q10.symm
      subst q10
      intro v11 e12
      have g13 : s0.1 12 0 = v11 := by rw [e12]
      have b14 : (1 : Int) ≤ v11.toInt ∧ v11.toInt ≤ 5 := by rw [e12]; exact Iv_12_0 i0
      refine And.intro (fun c15 => ?_) (fun c15 => ?_)
      · have c15 : v11.toInt ≤ w4.toInt := c15
        exact ⟨rfl, ⟨w3, (Int32.ofInt 8), rfl, (by omega), (by omega), rfl⟩, (by show (0 + (33 - (Int32.ofInt 8).toInt) * 1000000000000).toNat < (10000000000000000 + (5 - w4.toInt) * 1000000000000).toNat; omega)⟩
      · have c15 : ¬ (v11.toInt ≤ w4.toInt) := c15
        intro v16 e17
        have g18 : s0.1 12 1 = v16 := by rw [e17]
        have b19 : (1 : Int) ≤ v16.toInt ∧ v16.toInt ≤ 16 := by rw [e17]; exact Iv_12_1 i0
        intro v20 e21
        have b22 := vg_i2l e21
        intro v23 e24
        intro v25 e26
        have b27 := vg_add e26 (by omega) (by omega)
        exact ⟨rfl, ⟨v23, v25, rfl, (by omega), (by omega), rfl⟩, (by show (10000000000000000 + (5 - v25.toInt) * 1000000000000).toNat < (10000000000000000 + (5 - w4.toInt) * 1000000000000).toNat; omega)⟩
    ·
      intro L s32 hL
      obtain ⟨w28, w29, rfl, b30, b31, q35⟩ := hL
      have q35 := q35.symm
      subst q35
      refine And.intro (fun c36 => ?_) (fun c36 => ?_)
      · have c36 : (Int32.ofInt 32).toInt < w29.toInt := c36
        show s0 = s0 ∧ (True)
        exact ⟨rfl, (trivial)⟩
      · have c36 : ¬ ((Int32.ofInt 32).toInt < w29.toInt) := c36
        intro v37 e38
        have b39 := vg_sub e38 (by omega) (by omega)
        intro v40 e41
        intro v42 e43
        refine And.intro (fun c44 => ?_) (fun c44 => ?_)
        · have c44 : 0 ≤ v42.toInt := c44
          intro v45 e46
          have b47 := vg_add e46 (by omega) (by omega)
          exact ⟨rfl, ⟨w28, v45, rfl, (by omega), (by omega), rfl⟩, (by show (0 + (33 - v45.toInt) * 1000000000000).toNat < (0 + (33 - w29.toInt) * 1000000000000).toNat; omega)⟩
        · have c44 : ¬ (0 ≤ v42.toInt) := c44
          show s0 = s0 ∧ (True)
          exact ⟨rfl, (trivial)⟩
def o_X1_lastOfResponse : List vg_I := [(0, .aload_n 0, 1, 0, 0, 0, 0), (1, .getfield 11, 3, 290, 1, 0, 0), (4, .aload_n 0, 1, 0, 0, 0, 0), (5, .getfield 15, 3, 292, 1, 1, 0), (8, .iconst 1, 1, 0, 0, 0, 0), (9, .isub, 1, 0, 0, 0, 0), (10, .imul, 1, 0, 0, 0, 0), (11, .ireturn, 1, 0, 0, 0, 0)]
set_option maxRecDepth 100000 in
set_option maxHeartbeats 4000000 in
theorem c_X1_lastOfResponse (l : Launch) (G : vg_G) (hp : vg_Hp G) : vg_Ct l G vg_sh r_X1_lastOfResponse := by
  refine vg_meth hp vg_sh_ok r_X1_lastOfResponse k_X1_lastOfResponse rfl (fun h => by cases h) o_X1_lastOfResponse [] false (by decide +kernel) (by decide +kernel) ⟨_, _, rfl, rfl⟩ (fun _ h => absurd h List.not_mem_nil) (fun h => by cases h) 600 ?_
  intro as s0 hpre
  obtain ⟨r, rfl, hr, i0⟩ := hpre
  simp only [List.mem_cons, List.not_mem_nil, or_false] at hr
  rcases hr with rfl
  ·
    have z1 : (Int32.ofInt 1).toInt = 1 := by decide
    refine ⟨Nat.le_of_ble_eq_true rfl, [], ?_, fun _ h => absurd h List.not_mem_nil⟩
    ·
      intro v1 e2
      have g3 : s0.1 12 0 = v1 := by rw [e2]
      have b4 : (1 : Int) ≤ v1.toInt ∧ v1.toInt ≤ 5 := by rw [e2]; exact Iv_12_0 i0
      intro v5 e6
      have g7 : s0.1 12 1 = v5 := by rw [e6]
      have b8 : (1 : Int) ≤ v5.toInt ∧ v5.toInt ≤ 16 := by rw [e6]; exact Iv_12_1 i0
      intro v9 e10
      have b11 := vg_sub e10 (by omega) (by omega)
      intro v12 e13
      show s0 = s0 ∧ (True)
      exact ⟨rfl, (trivial)⟩
def o_X1_foldByOnes : List vg_I := [(0, .aload_n 0, 1, 0, 0, 0, 0), (1, .getfield 28, 3, 305, 1, 9, 0), (4, .arraylength, 1, 0, 0, 0, 0), (5, .iconst 1, 1, 0, 0, 0, 0), (6, .isub, 1, 0, 0, 0, 0), (7, .istore_n 1, 1, 0, 0, 0, 0), (8, .iload_n 1, 1, 0, 0, 0, 0), (9, .ifCond .lt 50, 3, 0, 0, 0, 0), (12, .iconst 0, 1, 0, 0, 0, 0), (13, .istore_n 2, 1, 0, 0, 0, 0), (14, .iconst 0, 1, 0, 0, 0, 0), (15, .istore_n 3, 1, 0, 0, 0, 0), (16, .iload_n 3, 1, 0, 0, 0, 0), (17, .aload_n 0, 1, 0, 0, 0, 0), (18, .getfield 15, 3, 292, 1, 1, 0), (21, .if_icmp .ge 25, 3, 0, 0, 0, 0), (24, .iload_n 3, 1, 0, 0, 0, 0), (25, .iload_n 1, 1, 0, 0, 0, 0), (26, .if_icmp .gt 20, 3, 0, 0, 0, 0), (29, .iload_n 2, 1, 0, 0, 0, 0), (30, .aload_n 0, 1, 0, 0, 0, 0), (31, .getfield 28, 3, 305, 1, 9, 0), (34, .iload_n 1, 1, 0, 0, 0, 0), (35, .iload_n 3, 1, 0, 0, 0, 0), (36, .isub, 1, 0, 0, 0, 0), (37, .iaload, 1, 0, 0, 0, 0), (38, .iadd, 1, 0, 0, 0, 0), (39, .istore_n 2, 1, 0, 0, 0, 0), (40, .iinc 3 1, 3, 0, 0, 0, 0), (43, .goto (-27), 3, 0, 0, 0, 0), (46, .aload_n 0, 1, 0, 0, 0, 0), (47, .getfield 28, 3, 305, 1, 9, 0), (50, .iload_n 1, 1, 0, 0, 0, 0), (51, .iload_n 2, 1, 0, 0, 0, 0), (52, .iastore, 1, 0, 0, 0, 0), (53, .iinc 1 (-1), 3, 0, 0, 0, 0), (56, .goto (-48), 3, 0, 0, 0, 0), (59, .return_, 1, 0, 0, 0, 0)]
set_option maxRecDepth 100000 in
set_option maxHeartbeats 4000000 in
theorem c_X1_foldByOnes (l : Launch) (G : vg_G) (hp : vg_Hp G) : vg_Ct l G vg_sh r_X1_foldByOnes := by
  refine vg_meth hp vg_sh_ok r_X1_foldByOnes k_X1_foldByOnes rfl (fun h => by cases h) o_X1_foldByOnes [] false (by decide +kernel) (by decide +kernel) ⟨_, _, rfl, rfl⟩ (fun _ h => absurd h List.not_mem_nil) (fun h => by cases h) 600 ?_
  intro as s0 hpre
  obtain ⟨r, rfl, hr, i0⟩ := hpre
  simp only [List.mem_cons, List.not_mem_nil, or_false] at hr
  rcases hr with rfl
  ·
    have zm1 : (Int32.ofInt (-1)).toInt = -1 := by decide
    have z0 : (Int32.ofInt 0).toInt = 0 := by decide
    have z1 : (Int32.ofInt 1).toInt = 1 := by decide
    have n76 : (Int32.ofNat 76).toInt = 76 := by decide
    refine ⟨Nat.le_of_ble_eq_true rfl, [(8, [true, true, false, false], (fun L t => ∃ (x1 : Int32), L = [some (.ref 12), some (.int x1), none, none] ∧ (-1 : Int) ≤ x1.toInt ∧ x1.toInt ≤ (75 : Int) ∧ Iv t ∧ Kp s0 t), (fun L _ => (((vg_li L 1).toInt + 1) * 100).toNat)), (16, [true, true, true, true], (fun L t => ∃ (x1 : Int32) (x2 : Int32) (x3 : Int32), L = [some (.ref 12), some (.int x1), some (.int x2), some (.int x3)] ∧ (0 : Int) ≤ x1.toInt ∧ x1.toInt ≤ (75 : Int) ∧ (0 : Int) ≤ x3.toInt ∧ x3.toInt ≤ (17 : Int) ∧ Iv t ∧ Kp s0 t), (fun L _ => ((vg_li L 1).toInt * 100 + (17 - (vg_li L 3).toInt) + 1).toNat))], ?_, List.forall_mem_cons.mpr ⟨?_, List.forall_mem_cons.mpr ⟨?_, fun _ h => absurd h List.not_mem_nil⟩⟩⟩
    ·
      intro v1 e2
      have b3 := vg_sub e2 (by omega) (by omega)
      exact ⟨rfl, ⟨v1, rfl, (by omega), (by omega), i0, Kx.rf⟩, trivial⟩
    ·
      intro L s7 hL
      obtain ⟨w4, rfl, b5, b6, i8, k9⟩ := hL
      refine And.intro (fun c10 => ?_) (fun c10 => ?_)
      · have c10 : w4.toInt < 0 := c10
        show Iv s7 ∧ Kp s0 s7 ∧ (True)
        exact ⟨i8, k9, (trivial)⟩
      · have c10 : ¬ (w4.toInt < 0) := c10
        exact ⟨rfl, ⟨w4, (Int32.ofInt 0), (Int32.ofInt 0), rfl, (by omega), (by omega), (by omega), (by omega), i8, k9⟩, (by show (w4.toInt * 100 + (17 - (Int32.ofInt 0).toInt) + 1).toNat < ((w4.toInt + 1) * 100).toNat; omega)⟩
    ·
      intro L s18 hL
      obtain ⟨w11, w14, w15, rfl, b12, b13, b16, b17, i19, k20⟩ := hL
      intro v21 e22
      have g23 : s18.1 12 1 = v21 := by rw [e22]
      have b24 : (1 : Int) ≤ v21.toInt ∧ v21.toInt ≤ 16 := by rw [e22]; exact Iv_12_1 i19
      refine And.intro (fun c25 => ?_) (fun c25 => ?_)
      · have c25 : v21.toInt ≤ w15.toInt := c25
        refine And.intro ⟨by omega, by omega⟩ ?_
        intro s26 e27
        have i28 : Iv s26 := Iv.a1 i19 e27 rfl
        have k29 : Kp s0 s26 := Kx.u1 k20 e27 rfl
        intro v30 e31
        have b32 := vg_add e31 (by omega) (by omega)
        exact ⟨rfl, ⟨v30, rfl, (by omega), (by omega), i28, k29⟩, (by show ((v30.toInt + 1) * 100).toNat < (w11.toInt * 100 + (17 - w15.toInt) + 1).toNat; omega)⟩
      · have c25 : ¬ (v21.toInt ≤ w15.toInt) := c25
        refine And.intro (fun c33 => ?_) (fun c33 => ?_)
        · have c33 : w11.toInt < w15.toInt := c33
          refine And.intro ⟨by omega, by omega⟩ ?_
          intro s34 e35
          have i36 : Iv s34 := Iv.a1 i19 e35 rfl
          have k37 : Kp s0 s34 := Kx.u1 k20 e35 rfl
          intro v38 e39
          have b40 := vg_add e39 (by omega) (by omega)
          exact ⟨rfl, ⟨v38, rfl, (by omega), (by omega), i36, k37⟩, (by show ((v38.toInt + 1) * 100).toNat < (w11.toInt * 100 + (17 - w15.toInt) + 1).toNat; omega)⟩
        · have c33 : ¬ (w11.toInt < w15.toInt) := c33
          intro v41 e42
          have b43 := vg_sub e42 (by omega) (by omega)
          refine And.intro ⟨by omega, by omega⟩ ?_
          intro v44 e45
          intro v46 e47
          intro v48 e49
          have b50 := vg_add e49 (by omega) (by omega)
          exact ⟨rfl, ⟨w11, v46, v48, rfl, (by omega), (by omega), (by omega), (by omega), i19, k20⟩, (by show (w11.toInt * 100 + (17 - v48.toInt) + 1).toNat < (w11.toInt * 100 + (17 - w15.toInt) + 1).toNat; omega)⟩
def o_X1_responseAt : List vg_I := [(0, .iload_n 1, 1, 0, 0, 0, 0), (1, .ifCond .lt 12, 3, 0, 0, 0, 0), (4, .iload_n 1, 1, 0, 0, 0, 0), (5, .aload_n 0, 1, 0, 0, 0, 0), (6, .getfield 28, 3, 305, 1, 9, 0), (9, .arraylength, 1, 0, 0, 0, 0), (10, .if_icmp .lt 5, 3, 0, 0, 0, 0), (13, .iconst 0, 1, 0, 0, 0, 0), (14, .ireturn, 1, 0, 0, 0, 0), (15, .aload_n 0, 1, 0, 0, 0, 0), (16, .getfield 28, 3, 305, 1, 9, 0), (19, .iconst 0, 1, 0, 0, 0, 0), (20, .invokestatic 56, 3, 0, 1, 2, 905), (23, .aload_n 0, 1, 0, 0, 0, 0), (24, .getfield 28, 3, 305, 1, 9, 0), (27, .iconst 0, 1, 0, 0, 0, 0), (28, .iconst 1, 1, 0, 0, 0, 0), (29, .iastore, 1, 0, 0, 0, 0), (30, .iconst 0, 1, 0, 0, 0, 0), (31, .istore_n 2, 1, 0, 0, 0, 0), (32, .iload_n 2, 1, 0, 0, 0, 0), (33, .aload_n 0, 1, 0, 0, 0, 0), (34, .getfield 11, 3, 290, 1, 0, 0), (37, .if_icmp .ge 13, 3, 0, 0, 0, 0), (40, .aload_n 0, 1, 0, 0, 0, 0), (41, .invokevirtual 59, 3, 1, 1, 0, 906), (44, .iinc 2 1, 3, 0, 0, 0, 0), (47, .goto (-15), 3, 0, 0, 0, 0), (50, .aload_n 0, 1, 0, 0, 0, 0), (51, .getfield 28, 3, 305, 1, 9, 0), (54, .iload_n 1, 1, 0, 0, 0, 0), (55, .iaload, 1, 0, 0, 0, 0), (56, .ireturn, 1, 0, 0, 0, 0)]
set_option maxRecDepth 100000 in
set_option maxHeartbeats 4000000 in
theorem c_X1_responseAt (l : Launch) (G : vg_G) (hp : vg_Hp G) : vg_Ct l G vg_sh r_X1_responseAt := by
  refine vg_meth hp vg_sh_ok r_X1_responseAt k_X1_responseAt rfl (fun h => by cases h) o_X1_responseAt [r_J7_fill_53178, r_X1_foldByOnes] false (by decide +kernel) (by decide +kernel) ⟨_, _, rfl, rfl⟩ (List.forall_mem_cons.mpr ⟨⟨c_J7_fill_53178 l G hp, Nat.le_of_ble_eq_true rfl, Nat.le_of_ble_eq_true rfl⟩, List.forall_mem_cons.mpr ⟨⟨c_X1_foldByOnes l G hp, Nat.le_of_ble_eq_true rfl, Nat.le_of_ble_eq_true rfl⟩, fun _ h => absurd h List.not_mem_nil⟩⟩) (fun h => by cases h) 600 ?_
  intro as s0 hpre
  obtain ⟨r, a1, rfl, hr, i0⟩ := hpre
  simp only [List.mem_cons, List.not_mem_nil, or_false] at hr
  rcases hr with rfl
  ·
    have z0 : (Int32.ofInt 0).toInt = 0 := by decide
    have z1 : (Int32.ofInt 1).toInt = 1 := by decide
    have n76 : (Int32.ofNat 76).toInt = 76 := by decide
    refine ⟨Nat.le_of_ble_eq_true rfl, [(32, [true, true, true], (fun L t => ∃ (x2 : Int32), L = [some (.ref 12), some (.int a1), some (.int x2)] ∧ (0 : Int) ≤ x2.toInt ∧ x2.toInt ≤ (5 : Int) ∧ (0 : Int) ≤ a1.toInt ∧ a1.toInt ≤ (75 : Int) ∧ Iv t ∧ Kp s0 t), (fun L _ => (0 + (5 - (vg_li L 2).toInt) * 1000000000000).toNat))], ?_, List.forall_mem_cons.mpr ⟨?_, fun _ h => absurd h List.not_mem_nil⟩⟩
    ·
      refine And.intro (fun c1 => ?_) (fun c1 => ?_)
      · have c1 : a1.toInt < 0 := c1
        show Iv s0 ∧ Kp s0 s0 ∧ (True)
        exact ⟨i0, Kx.rf, (trivial)⟩
      · have c1 : ¬ (a1.toInt < 0) := c1
        refine And.intro (fun c2 => ?_) (fun c2 => ?_)
        · have c2 : a1.toInt < (Int32.ofNat 76).toInt := c2
          refine And.intro (Nat.le_of_ble_eq_true rfl) (And.intro ⟨15, (Int32.ofInt 0), rfl, by decide, i0⟩ ?_)
          intro s4 h3
          have h3 : Iv s4 ∧ Kp s0 s4 ∧ (True) := h3
          have i5 := h3.1
          have k6 : Kp s0 s4 := Kx.tr Kx.rf (h3.2.1)
          refine And.intro ⟨by omega, by omega⟩ ?_
          intro s7 e8
          have i9 : Iv s7 := Iv.a1 i5 e8 rfl
          have k10 : Kp s0 s7 := Kx.u1 k6 e8 rfl
          exact ⟨rfl, ⟨(Int32.ofInt 0), rfl, (by omega), (by omega), (by omega), (by omega), i9, k10⟩, trivial⟩
        · have c2 : ¬ (a1.toInt < (Int32.ofNat 76).toInt) := c2
          show Iv s0 ∧ Kp s0 s0 ∧ (True)
          exact ⟨i0, Kx.rf, (trivial)⟩
    ·
      intro L s16 hL
      obtain ⟨w11, rfl, b12, b13, b14, b15, i17, k18⟩ := hL
      intro v19 e20
      have g21 : s16.1 12 0 = v19 := by rw [e20]
      have b22 : (1 : Int) ≤ v19.toInt ∧ v19.toInt ≤ 5 := by rw [e20]; exact Iv_12_0 i17
      refine And.intro (fun c23 => ?_) (fun c23 => ?_)
      · have c23 : v19.toInt ≤ w11.toInt := c23
        refine And.intro ⟨by omega, by omega⟩ ?_
        intro v24 e25
        show Iv s16 ∧ Kp s0 s16 ∧ (True)
        exact ⟨i17, k18, (trivial)⟩
      · have c23 : ¬ (v19.toInt ≤ w11.toInt) := c23
        refine And.intro (Nat.le_of_ble_eq_true rfl) (And.intro ⟨12, rfl, by decide, i17⟩ ?_)
        intro s27 h26
        have h26 : Iv s27 ∧ Kp s16 s27 ∧ (True) := h26
        have i28 := h26.1
        have k29 : Kp s0 s27 := Kx.tr k18 (h26.2.1)
        intro v30 e31
        have b32 := vg_add e31 (by omega) (by omega)
        exact ⟨rfl, ⟨v30, rfl, (by omega), (by omega), (by omega), (by omega), i28, k29⟩, (by show (0 + (5 - v30.toInt) * 1000000000000).toNat < (0 + (5 - w11.toInt) * 1000000000000).toNat; omega)⟩
end
section
def o_X2_begin : List vg_I := [(0, .aload_n 0, 1, 0, 0, 0, 0), (1, .iconst 0, 1, 0, 0, 0, 0), (2, .putfield 28, 3, 243, 2, 2, 0), (5, .aload_n 0, 1, 0, 0, 0, 0), (6, .iconst 0, 1, 0, 0, 0, 0), (7, .putfield 31, 3, 245, 2, 3, 0), (10, .aload_n 0, 1, 0, 0, 0, 0), (11, .getfield 19, 3, 249, 2, 5, 0), (14, .iconst 0, 1, 0, 0, 0, 0), (15, .invokestatic 34, 3, 0, 1, 2, 507), (18, .aload_n 0, 1, 0, 0, 0, 0), (19, .getfield 22, 3, 251, 2, 6, 0), (22, .iconst 0, 1, 0, 0, 0, 0), (23, .invokestatic 34, 3, 0, 1, 2, 507), (26, .aload_n 0, 1, 0, 0, 0, 0), (27, .getfield 25, 3, 253, 2, 7, 0), (30, .iconst 0, 1, 0, 0, 0, 0), (31, .invokestatic 34, 3, 0, 1, 2, 507), (34, .aload_n 0, 1, 0, 0, 0, 0), (35, .lconst 0, 1, 0, 0, 0, 0), (36, .putfield 40, 3, 255, 2, 8, 2), (39, .aload_n 0, 1, 0, 0, 0, 0), (40, .lconst 0, 1, 0, 0, 0, 0), (41, .putfield 44, 3, 257, 2, 9, 2), (44, .aload_n 0, 1, 0, 0, 0, 0), (45, .lconst 0, 1, 0, 0, 0, 0), (46, .putfield 47, 3, 259, 2, 10, 2), (49, .return_, 1, 0, 0, 0, 0)]
set_option maxRecDepth 100000 in
set_option maxHeartbeats 4000000 in
theorem c_X2_begin (l : Launch) (G : vg_G) (hp : vg_Hp G) : vg_Ct l G vg_sh r_X2_begin := by
  refine vg_meth hp vg_sh_ok r_X2_begin k_X2_begin rfl (fun h => by cases h) o_X2_begin [r_J7_fill_53178] false (by decide +kernel) (by decide +kernel) ⟨_, _, rfl, rfl⟩ (List.forall_mem_cons.mpr ⟨⟨c_J7_fill_53178 l G hp, Nat.le_of_ble_eq_true rfl, Nat.le_of_ble_eq_true rfl⟩, fun _ h => absurd h List.not_mem_nil⟩) (fun h => by cases h) 600 ?_
  intro as s0 hpre
  obtain ⟨r, rfl, hr, i0⟩ := hpre
  simp only [List.mem_cons, List.not_mem_nil, or_false] at hr
  rcases hr with rfl | rfl
  ·
    have z0 : (Int32.ofInt 0).toInt = 0 := by decide
    refine ⟨Nat.le_of_ble_eq_true rfl, [], ?_, fun _ h => absurd h List.not_mem_nil⟩
    ·
      intro s1 e2
      have i3 : Iv s1 := Iv.u1 i0 e2 rfl
      have k4 : Kp s0 s1 := Kx.u1 Kx.rf e2 rfl
      intro s5 e6
      have i7 : Iv s5 := Iv.u1 i3 e6 rfl
      have k8 : Kp s0 s5 := Kx.u1 k4 e6 rfl
      refine And.intro (Nat.le_of_ble_eq_true rfl) (And.intro ⟨9, (Int32.ofInt 0), rfl, by decide, i7⟩ ?_)
      intro s10 h9
      have h9 : Iv s10 ∧ Kp s5 s10 ∧ (True) := h9
      have i11 := h9.1
      have k12 : Kp s0 s10 := Kx.tr k8 (h9.2.1)
      refine And.intro (Nat.le_of_ble_eq_true rfl) (And.intro ⟨10, (Int32.ofInt 0), rfl, by decide, i11⟩ ?_)
      intro s14 h13
      have h13 : Iv s14 ∧ Kp s10 s14 ∧ (True) := h13
      have i15 := h13.1
      have k16 : Kp s0 s14 := Kx.tr k12 (h13.2.1)
      refine And.intro (Nat.le_of_ble_eq_true rfl) (And.intro ⟨11, (Int32.ofInt 0), rfl, by decide, i15⟩ ?_)
      intro s18 h17
      have h17 : Iv s18 ∧ Kp s14 s18 ∧ (True) := h17
      have i19 := h17.1
      have k20 : Kp s0 s18 := Kx.tr k16 (h17.2.1)
      intro s21 e22
      have i23 : Iv s21 := Iv.u2 i19 e22
      have k24 : Kp s0 s21 := Kx.u2 k20 e22 (vg_kq_no ⟨rfl, rfl, rfl⟩).1
      intro s25 e26
      have i27 : Iv s25 := Iv.u2 i23 e26
      have k28 : Kp s0 s25 := Kx.u2 k24 e26 (vg_kq_no ⟨rfl, rfl, rfl⟩).1
      intro s29 e30
      have i31 : Iv s29 := Iv.u2 i27 e30
      have k32 : Kp s0 s29 := Kx.u2 k28 e30 (vg_kq_no ⟨rfl, rfl, rfl⟩).1
      show Iv s29 ∧ Kp s0 s29 ∧ (True)
      exact ⟨i31, k32, (trivial)⟩
  ·
    have z0 : (Int32.ofInt 0).toInt = 0 := by decide
    refine ⟨Nat.le_of_ble_eq_true rfl, [], ?_, fun _ h => absurd h List.not_mem_nil⟩
    ·
      intro s1 e2
      have i3 : Iv s1 := Iv.u1 i0 e2 rfl
      have k4 : Kp s0 s1 := Kx.u1 Kx.rf e2 rfl
      intro s5 e6
      have i7 : Iv s5 := Iv.u1 i3 e6 rfl
      have k8 : Kp s0 s5 := Kx.u1 k4 e6 rfl
      refine And.intro (Nat.le_of_ble_eq_true rfl) (And.intro ⟨28, (Int32.ofInt 0), rfl, by decide, i7⟩ ?_)
      intro s10 h9
      have h9 : Iv s10 ∧ Kp s5 s10 ∧ (True) := h9
      have i11 := h9.1
      have k12 : Kp s0 s10 := Kx.tr k8 (h9.2.1)
      refine And.intro (Nat.le_of_ble_eq_true rfl) (And.intro ⟨29, (Int32.ofInt 0), rfl, by decide, i11⟩ ?_)
      intro s14 h13
      have h13 : Iv s14 ∧ Kp s10 s14 ∧ (True) := h13
      have i15 := h13.1
      have k16 : Kp s0 s14 := Kx.tr k12 (h13.2.1)
      refine And.intro (Nat.le_of_ble_eq_true rfl) (And.intro ⟨30, (Int32.ofInt 0), rfl, by decide, i15⟩ ?_)
      intro s18 h17
      have h17 : Iv s18 ∧ Kp s14 s18 ∧ (True) := h17
      have i19 := h17.1
      have k20 : Kp s0 s18 := Kx.tr k16 (h17.2.1)
      intro s21 e22
      have i23 : Iv s21 := Iv.u2 i19 e22
      have k24 : Kp s0 s21 := Kx.u2 k20 e22 (vg_kq_no ⟨rfl, rfl, rfl⟩).1
      intro s25 e26
      have i27 : Iv s25 := Iv.u2 i23 e26
      have k28 : Kp s0 s25 := Kx.u2 k24 e26 (vg_kq_no ⟨rfl, rfl, rfl⟩).1
      intro s29 e30
      have i31 : Iv s29 := Iv.u2 i27 e30
      have k32 : Kp s0 s29 := Kx.u2 k28 e30 (vg_kq_no ⟨rfl, rfl, rfl⟩).1
      show Iv s29 ∧ Kp s0 s29 ∧ (True)
      exact ⟨i31, k32, (trivial)⟩
def o_X2_beginLike : List vg_I := [(0, .aload_n 0, 1, 0, 0, 0, 0), (1, .aload_n 1, 1, 0, 0, 0, 0), (2, .getfield 9, 3, 239, 2, 0, 0), (5, .putfield 9, 3, 239, 2, 0, 0), (8, .aload_n 0, 1, 0, 0, 0, 0), (9, .iload_n 2, 1, 0, 0, 0, 0), (10, .putfield 50, 3, 241, 2, 1, 0), (13, .aload_n 1, 1, 0, 0, 0, 0), (14, .getfield 15, 3, 247, 2, 4, 0), (17, .iconst 0, 1, 0, 0, 0, 0), (18, .aload_n 0, 1, 0, 0, 0, 0), (19, .getfield 15, 3, 247, 2, 4, 0), (22, .iconst 0, 1, 0, 0, 0, 0), (23, .bipush 16, 2, 0, 0, 0, 0), (25, .invokestatic 53, 3, 0, 3, 0, 1039), (28, .aload_n 0, 1, 0, 0, 0, 0), (29, .invokevirtual 59, 3, 0, 2, 0, 1040), (32, .return_, 1, 0, 0, 0, 0)]
set_option maxRecDepth 100000 in
set_option maxHeartbeats 4000000 in
theorem c_X2_beginLike (l : Launch) (G : vg_G) (hp : vg_Hp G) : vg_Ct l G vg_sh r_X2_beginLike := by
  refine vg_meth hp vg_sh_ok r_X2_beginLike k_X2_beginLike rfl (fun h => by cases h) o_X2_beginLike [r_X2_begin] true (by decide +kernel) (by decide +kernel) ⟨_, _, rfl, rfl⟩ (List.forall_mem_cons.mpr ⟨⟨c_X2_begin l G hp, Nat.le_of_ble_eq_true rfl, Nat.le_of_ble_eq_true rfl⟩, fun _ h => absurd h List.not_mem_nil⟩) (fun _ => ⟨⟨Nat.le_of_ble_eq_true rfl, Nat.le_of_ble_eq_true rfl⟩, vg_cpw_in⟩) 600 ?_
  intro as s0 hpre
  obtain ⟨r, a1, a2, rfl, hr, ha1, i0⟩ := hpre
  simp only [List.mem_cons, List.not_mem_nil, or_false] at hr
  rcases hr with rfl
  ·
    simp only [List.mem_cons, List.not_mem_nil, or_false] at ha1
    rcases ha1 with rfl
    ·
      have z0 : (Int32.ofInt 0).toInt = 0 := by decide
      have z16 : (Int32.ofInt 16).toInt = 16 := by decide
      refine ⟨Nat.le_of_ble_eq_true rfl, [], ?_, fun _ h => absurd h List.not_mem_nil⟩
      ·
        intro v1 e2
        have g3 : s0.1 7 0 = v1 := by rw [e2]
        have b4 : (1 : Int) ≤ v1.toInt ∧ v1.toInt ≤ 16 := by rw [e2]; exact Iv_7_0 i0
        intro s5 e6
        have i7 : Iv s5 := Iv.c1 (lo := 1) (hi := 16) i0 e6 rfl (by omega) (by omega)
        have k8 : Kp s0 s5 := Kx.u1 Kx.rf e6 rfl
        intro s9 e10
        have i11 : Iv s9 := Iv.u1 i7 e10 rfl
        have k12 : Kp s0 s9 := Kx.u1 k8 e10 rfl
        refine And.intro (Nat.le_of_ble_eq_true rfl) (And.intro (by omega) (And.intro (by omega) (And.intro (by omega) (And.intro (by omega) (And.intro (by omega) ?_)))))
        intro s13 e14
        have i15 : Iv s13 := Iv.w1 i11 e14 rfl
        have k16 : Kp s0 s13 := Kx.w1 k12 e14 (fun _ => rfl)
        refine And.intro (Nat.le_of_ble_eq_true rfl) (And.intro ⟨26, rfl, by decide, i15⟩ ?_)
        intro s18 h17
        have h17 : Iv s18 ∧ Kp s13 s18 ∧ (True) := h17
        have i19 := h17.1
        have k20 : Kp s0 s18 := Kx.tr k16 (h17.2.1)
        show Iv s18 ∧ Kp s0 s18 ∧ (True)
        exact ⟨i19, k20, (trivial)⟩
def o_X2_weight : List vg_I := [(0, .sipush 1000, 3, 0, 0, 0, 0), (3, .aload_n 0, 1, 0, 0, 0, 0), (4, .getfield 15, 3, 247, 2, 4, 0), (7, .iload_n 1, 1, 0, 0, 0, 0), (8, .iaload, 1, 0, 0, 0, 0), (9, .iadd, 1, 0, 0, 0, 0), (10, .ireturn, 1, 0, 0, 0, 0)]
set_option maxRecDepth 100000 in
set_option maxHeartbeats 4000000 in
theorem c_X2_weight (l : Launch) (G : vg_G) (hp : vg_Hp G) : vg_Ct l G vg_sh r_X2_weight := by
  refine vg_meth hp vg_sh_ok r_X2_weight k_X2_weight rfl (fun h => by cases h) o_X2_weight [] false (by decide +kernel) (by decide +kernel) ⟨_, _, rfl, rfl⟩ (fun _ h => absurd h List.not_mem_nil) (fun h => by cases h) 600 ?_
  intro as s0 hpre
  obtain ⟨r, a1, rfl, hr, i0, p0⟩ := hpre
  simp only [List.mem_cons, List.not_mem_nil, or_false] at hr
  rcases hr with rfl | rfl
  ·
    have z1000 : (Int32.ofInt 1000).toInt = 1000 := by decide
    refine ⟨Nat.le_of_ble_eq_true rfl, [], ?_, fun _ h => absurd h List.not_mem_nil⟩
    ·
      refine And.intro ⟨by omega, by omega⟩ ?_
      intro v1 e2
      intro v3 e4
      show s0 = s0 ∧ (True)
      exact ⟨rfl, (trivial)⟩
  ·
    have z1000 : (Int32.ofInt 1000).toInt = 1000 := by decide
    refine ⟨Nat.le_of_ble_eq_true rfl, [], ?_, fun _ h => absurd h List.not_mem_nil⟩
    ·
      refine And.intro ⟨by omega, by omega⟩ ?_
      intro v1 e2
      intro v3 e4
      show s0 = s0 ∧ (True)
      exact ⟨rfl, (trivial)⟩
def o_X2_weightsOf : List vg_I := [(0, .iconst 0, 1, 0, 0, 0, 0), (1, .istore_n 2, 1, 0, 0, 0, 0), (2, .iconst 0, 1, 0, 0, 0, 0), (3, .istore_n 3, 1, 0, 0, 0, 0), (4, .iload_n 3, 1, 0, 0, 0, 0), (5, .aload_n 0, 1, 0, 0, 0, 0), (6, .getfield 9, 3, 239, 2, 0, 0), (9, .if_icmp .ge 26, 3, 0, 0, 0, 0), (12, .iload_n 1, 1, 0, 0, 0, 0), (13, .iload_n 3, 1, 0, 0, 0, 0), (14, .ishr, 1, 0, 0, 0, 0), (15, .iconst 1, 1, 0, 0, 0, 0), (16, .iand, 1, 0, 0, 0, 0), (17, .iconst 1, 1, 0, 0, 0, 0), (18, .if_icmp .ne 11, 3, 0, 0, 0, 0), (21, .iload_n 2, 1, 0, 0, 0, 0), (22, .aload_n 0, 1, 0, 0, 0, 0), (23, .iload_n 3, 1, 0, 0, 0, 0), (24, .invokevirtual 106, 3, 0, 2, 1, 564), (27, .iadd, 1, 0, 0, 0, 0), (28, .istore_n 2, 1, 0, 0, 0, 0), (29, .iinc 3 1, 3, 0, 0, 0, 0), (32, .goto (-28), 3, 0, 0, 0, 0), (35, .iload_n 2, 1, 0, 0, 0, 0), (36, .ireturn, 1, 0, 0, 0, 0)]
set_option maxRecDepth 100000 in
set_option maxHeartbeats 4000000 in
theorem c_X2_weightsOf (l : Launch) (G : vg_G) (hp : vg_Hp G) : vg_Ct l G vg_sh r_X2_weightsOf := by
  refine vg_meth hp vg_sh_ok r_X2_weightsOf k_X2_weightsOf rfl (fun h => by cases h) o_X2_weightsOf [r_X2_weight] false (by decide +kernel) (by decide +kernel) ⟨_, _, rfl, rfl⟩ (List.forall_mem_cons.mpr ⟨⟨c_X2_weight l G hp, Nat.le_of_ble_eq_true rfl, Nat.le_of_ble_eq_true rfl⟩, fun _ h => absurd h List.not_mem_nil⟩) (fun h => by cases h) 600 ?_
  intro as s0 hpre
  obtain ⟨r, a1, rfl, hr, i0⟩ := hpre
  simp only [List.mem_cons, List.not_mem_nil, or_false] at hr
  rcases hr with rfl | rfl
  ·
    have z0 : (Int32.ofInt 0).toInt = 0 := by decide
    have z1 : (Int32.ofInt 1).toInt = 1 := by decide
    refine ⟨Nat.le_of_ble_eq_true rfl, [(4, [true, true, true, true], (fun L t => ∃ (x2 : Int32) (x3 : Int32), L = [some (.ref 7), some (.int a1), some (.int x2), some (.int x3)] ∧ (0 : Int) ≤ x3.toInt ∧ x3.toInt ≤ (16 : Int) ∧ t = s0), (fun L _ => (0 + (16 - (vg_li L 3).toInt) * 1000000000000).toNat))], ?_, List.forall_mem_cons.mpr ⟨?_, fun _ h => absurd h List.not_mem_nil⟩⟩
    ·
      exact ⟨rfl, ⟨(Int32.ofInt 0), (Int32.ofInt 0), rfl, (by omega), (by omega), rfl⟩, trivial⟩
    ·
      intro L s5 hL
      obtain ⟨w1, w2, rfl, b3, b4, q8⟩ := hL
      have q8 := q8.symm
      subst q8
      intro v9 e10
      have g11 : s0.1 7 0 = v9 := by rw [e10]
      have b12 : (1 : Int) ≤ v9.toInt ∧ v9.toInt ≤ 16 := by rw [e10]; exact Iv_7_0 i0
      refine And.intro (fun c13 => ?_) (fun c13 => ?_)
      · have c13 : v9.toInt ≤ w2.toInt := c13
        show s0 = s0 ∧ (True)
        exact ⟨rfl, (trivial)⟩
      · have c13 : ¬ (v9.toInt ≤ w2.toInt) := c13
        intro v14 e15
        intro v16 e17
        have b18 := vg_and e17 (by omega)
        refine And.intro (fun c19 => ?_) (fun c19 => ?_)
        · have c19 : ¬ v16.toInt = (Int32.ofInt 1).toInt := c19
          intro v20 e21
          have b22 := vg_add e21 (by omega) (by omega)
          exact ⟨rfl, ⟨w1, v20, rfl, (by omega), (by omega), rfl⟩, (by show (0 + (16 - v20.toInt) * 1000000000000).toNat < (0 + (16 - w2.toInt) * 1000000000000).toNat; omega)⟩
        · have c19 : ¬ (¬ v16.toInt = (Int32.ofInt 1).toInt) := c19
          refine And.intro (Nat.le_of_ble_eq_true rfl) (And.intro ⟨7, w2, rfl, by decide, i0, by omega⟩ ?_)
          intro v23 s25 h24
          have h24 : s25 = s0 ∧ (True) := h24
          have q28 := h24.1.symm
          subst q28
          intro v29 e30
          intro v31 e32
          have b33 := vg_add e32 (by omega) (by omega)
          exact ⟨rfl, ⟨v29, v31, rfl, (by omega), (by omega), rfl⟩, (by show (0 + (16 - v31.toInt) * 1000000000000).toNat < (0 + (16 - w2.toInt) * 1000000000000).toNat; omega)⟩
  ·
    have z0 : (Int32.ofInt 0).toInt = 0 := by decide
    have z1 : (Int32.ofInt 1).toInt = 1 := by decide
    refine ⟨Nat.le_of_ble_eq_true rfl, [(4, [true, true, true, true], (fun L t => ∃ (x2 : Int32) (x3 : Int32), L = [some (.ref 26), some (.int a1), some (.int x2), some (.int x3)] ∧ (0 : Int) ≤ x3.toInt ∧ x3.toInt ≤ (16 : Int) ∧ t = s0), (fun L _ => (0 + (16 - (vg_li L 3).toInt) * 1000000000000).toNat))], ?_, List.forall_mem_cons.mpr ⟨?_, fun _ h => absurd h List.not_mem_nil⟩⟩
    ·
      exact ⟨rfl, ⟨(Int32.ofInt 0), (Int32.ofInt 0), rfl, (by omega), (by omega), rfl⟩, trivial⟩
    ·
      intro L s5 hL
      obtain ⟨w1, w2, rfl, b3, b4, q8⟩ := hL
      have q8 := q8.symm
      subst q8
      intro v9 e10
      have g11 : s0.1 26 0 = v9 := by rw [e10]
      have b12 : (1 : Int) ≤ v9.toInt ∧ v9.toInt ≤ 16 := by rw [e10]; exact Iv_26_0 i0
      refine And.intro (fun c13 => ?_) (fun c13 => ?_)
      · have c13 : v9.toInt ≤ w2.toInt := c13
        show s0 = s0 ∧ (True)
        exact ⟨rfl, (trivial)⟩
      · have c13 : ¬ (v9.toInt ≤ w2.toInt) := c13
        intro v14 e15
        intro v16 e17
        have b18 := vg_and e17 (by omega)
        refine And.intro (fun c19 => ?_) (fun c19 => ?_)
        · have c19 : ¬ v16.toInt = (Int32.ofInt 1).toInt := c19
          intro v20 e21
          have b22 := vg_add e21 (by omega) (by omega)
          exact ⟨rfl, ⟨w1, v20, rfl, (by omega), (by omega), rfl⟩, (by show (0 + (16 - v20.toInt) * 1000000000000).toNat < (0 + (16 - w2.toInt) * 1000000000000).toNat; omega)⟩
        · have c19 : ¬ (¬ v16.toInt = (Int32.ofInt 1).toInt) := c19
          refine And.intro (Nat.le_of_ble_eq_true rfl) (And.intro ⟨26, w2, rfl, by decide, i0, by omega⟩ ?_)
          intro v23 s25 h24
          have h24 : s25 = s0 ∧ (True) := h24
          have q28 := h24.1.symm
          subst q28
          intro v29 e30
          intro v31 e32
          have b33 := vg_add e32 (by omega) (by omega)
          exact ⟨rfl, ⟨v29, v31, rfl, (by omega), (by omega), rfl⟩, (by show (0 + (16 - v31.toInt) * 1000000000000).toNat < (0 + (16 - w2.toInt) * 1000000000000).toNat; omega)⟩
def o_X2_allWeights : List vg_I := [(0, .aload_n 0, 1, 0, 0, 0, 0), (1, .iconst 1, 1, 0, 0, 0, 0), (2, .aload_n 0, 1, 0, 0, 0, 0), (3, .getfield 9, 3, 239, 2, 0, 0), (6, .ishl, 1, 0, 0, 0, 0), (7, .iconst 1, 1, 0, 0, 0, 0), (8, .isub, 1, 0, 0, 0, 0), (9, .invokevirtual 62, 3, 0, 2, 1, 560), (12, .ireturn, 1, 0, 0, 0, 0)]
set_option maxRecDepth 100000 in
set_option maxHeartbeats 4000000 in
theorem c_X2_allWeights (l : Launch) (G : vg_G) (hp : vg_Hp G) : vg_Ct l G vg_sh r_X2_allWeights := by
  refine vg_meth hp vg_sh_ok r_X2_allWeights k_X2_allWeights rfl (fun h => by cases h) o_X2_allWeights [r_X2_weightsOf] false (by decide +kernel) (by decide +kernel) ⟨_, _, rfl, rfl⟩ (List.forall_mem_cons.mpr ⟨⟨c_X2_weightsOf l G hp, Nat.le_of_ble_eq_true rfl, Nat.le_of_ble_eq_true rfl⟩, fun _ h => absurd h List.not_mem_nil⟩) (fun h => by cases h) 600 ?_
  intro as s0 hpre
  obtain ⟨r, rfl, hr, i0⟩ := hpre
  simp only [List.mem_cons, List.not_mem_nil, or_false] at hr
  rcases hr with rfl | rfl
  ·
    have z1 : (Int32.ofInt 1).toInt = 1 := by decide
    refine ⟨Nat.le_of_ble_eq_true rfl, [], ?_, fun _ h => absurd h List.not_mem_nil⟩
    ·
      intro v1 e2
      have g3 : s0.1 7 0 = v1 := by rw [e2]
      have b4 : (1 : Int) ≤ v1.toInt ∧ v1.toInt ≤ 16 := by rw [e2]; exact Iv_7_0 i0
      intro v5 e6
      intro v7 e8
      refine And.intro (Nat.le_of_ble_eq_true rfl) (And.intro ⟨7, v7, rfl, by decide, i0⟩ ?_)
      intro v9 s11 h10
      have h10 : s11 = s0 ∧ (True) := h10
      have q14 := h10.1.symm
      subst q14
      show s0 = s0 ∧ (True)
      exact ⟨rfl, (trivial)⟩
  ·
    have z1 : (Int32.ofInt 1).toInt = 1 := by decide
    refine ⟨Nat.le_of_ble_eq_true rfl, [], ?_, fun _ h => absurd h List.not_mem_nil⟩
    ·
      intro v1 e2
      have g3 : s0.1 26 0 = v1 := by rw [e2]
      have b4 : (1 : Int) ≤ v1.toInt ∧ v1.toInt ≤ 16 := by rw [e2]; exact Iv_26_0 i0
      intro v5 e6
      intro v7 e8
      refine And.intro (Nat.le_of_ble_eq_true rfl) (And.intro ⟨26, v7, rfl, by decide, i0⟩ ?_)
      intro v9 s11 h10
      have h10 : s11 = s0 ∧ (True) := h10
      have q14 := h10.1.symm
      subst q14
      show s0 = s0 ∧ (True)
      exact ⟨rfl, (trivial)⟩
def o_X2_unevenness : List vg_I := [(0, .aload_n 0, 1, 0, 0, 0, 0), (1, .getfield 19, 3, 249, 2, 5, 0), (4, .iconst 0, 1, 0, 0, 0, 0), (5, .iaload, 1, 0, 0, 0, 0), (6, .istore_n 1, 1, 0, 0, 0, 0), (7, .aload_n 0, 1, 0, 0, 0, 0), (8, .getfield 19, 3, 249, 2, 5, 0), (11, .iconst 0, 1, 0, 0, 0, 0), (12, .iaload, 1, 0, 0, 0, 0), (13, .istore_n 2, 1, 0, 0, 0, 0), (14, .iconst 1, 1, 0, 0, 0, 0), (15, .istore_n 3, 1, 0, 0, 0, 0), (16, .iload_n 3, 1, 0, 0, 0, 0), (17, .aload_n 0, 1, 0, 0, 0, 0), (18, .getfield 9, 3, 239, 2, 0, 0), (21, .if_icmp .ge 31, 3, 0, 0, 0, 0), (24, .iload_n 1, 1, 0, 0, 0, 0), (25, .aload_n 0, 1, 0, 0, 0, 0), (26, .getfield 19, 3, 249, 2, 5, 0), (29, .iload_n 3, 1, 0, 0, 0, 0), (30, .iaload, 1, 0, 0, 0, 0), (31, .invokestatic 66, 3, 0, 1, 2, 861), (34, .istore_n 1, 1, 0, 0, 0, 0), (35, .iload_n 2, 1, 0, 0, 0, 0), (36, .aload_n 0, 1, 0, 0, 0, 0), (37, .getfield 19, 3, 249, 2, 5, 0), (40, .iload_n 3, 1, 0, 0, 0, 0), (41, .iaload, 1, 0, 0, 0, 0), (42, .invokestatic 72, 3, 1, 1, 2, 862), (45, .istore_n 2, 1, 0, 0, 0, 0), (46, .iinc 3 1, 3, 0, 0, 0, 0), (49, .goto (-33), 3, 0, 0, 0, 0), (52, .iload_n 1, 1, 0, 0, 0, 0), (53, .iload_n 2, 1, 0, 0, 0, 0), (54, .isub, 1, 0, 0, 0, 0), (55, .ireturn, 1, 0, 0, 0, 0)]
set_option maxRecDepth 100000 in
set_option maxHeartbeats 4000000 in
theorem c_X2_unevenness (l : Launch) (G : vg_G) (hp : vg_Hp G) : vg_Ct l G vg_sh r_X2_unevenness := by
  refine vg_meth hp vg_sh_ok r_X2_unevenness k_X2_unevenness rfl (fun h => by cases h) o_X2_unevenness [r_J9_max_7cf53, r_J9_min_7cf53] false (by decide +kernel) (by decide +kernel) ⟨_, _, rfl, rfl⟩ (List.forall_mem_cons.mpr ⟨⟨c_J9_max_7cf53 l G hp, Nat.le_of_ble_eq_true rfl, Nat.le_of_ble_eq_true rfl⟩, List.forall_mem_cons.mpr ⟨⟨c_J9_min_7cf53 l G hp, Nat.le_of_ble_eq_true rfl, Nat.le_of_ble_eq_true rfl⟩, fun _ h => absurd h List.not_mem_nil⟩⟩) (fun h => by cases h) 600 ?_
  intro as s0 hpre
  obtain ⟨r, rfl, hr, i0⟩ := hpre
  simp only [List.mem_cons, List.not_mem_nil, or_false] at hr
  rcases hr with rfl | rfl
  ·
    have z0 : (Int32.ofInt 0).toInt = 0 := by decide
    have z1 : (Int32.ofInt 1).toInt = 1 := by decide
    refine ⟨Nat.le_of_ble_eq_true rfl, [(16, [true, true, true, true], (fun L t => ∃ (x1 : Int32) (x2 : Int32) (x3 : Int32), L = [some (.ref 7), some (.int x1), some (.int x2), some (.int x3)] ∧ (1 : Int) ≤ x3.toInt ∧ x3.toInt ≤ (16 : Int) ∧ t = s0), (fun L _ => (0 + (16 - (vg_li L 3).toInt) * 1000000000000).toNat))], ?_, List.forall_mem_cons.mpr ⟨?_, fun _ h => absurd h List.not_mem_nil⟩⟩
    ·
      refine And.intro ⟨by omega, by omega⟩ ?_
      intro v1 e2
      refine And.intro ⟨by omega, by omega⟩ ?_
      intro v3 e4
      have w5 : v1 = v3 := by rw [e4, e2]
      subst w5
      exact ⟨rfl, ⟨v1, v1, (Int32.ofInt 1), rfl, (by omega), (by omega), rfl⟩, trivial⟩
    ·
      intro L s11 hL
      obtain ⟨w6, w7, w8, rfl, b9, b10, q14⟩ := hL
      have q14 := q14.symm
      subst q14
      intro v15 e16
      have g17 : s0.1 7 0 = v15 := by rw [e16]
      have b18 : (1 : Int) ≤ v15.toInt ∧ v15.toInt ≤ 16 := by rw [e16]; exact Iv_7_0 i0
      refine And.intro (fun c19 => ?_) (fun c19 => ?_)
      · have c19 : v15.toInt ≤ w8.toInt := c19
        intro v20 e21
        show s0 = s0 ∧ (True)
        exact ⟨rfl, (trivial)⟩
      · have c19 : ¬ (v15.toInt ≤ w8.toInt) := c19
        refine And.intro ⟨by omega, by omega⟩ ?_
        intro v22 e23
        refine And.intro (Nat.le_of_ble_eq_true rfl) (And.intro ⟨w6, v22, rfl, trivial⟩ ?_)
        intro v24 s26 h25
        have h25 : s26 = s0 ∧ (w6.toInt ≤ v24.toInt ∧ v22.toInt ≤ v24.toInt ∧ (v24.toInt = w6.toInt ∨ v24.toInt = v22.toInt)) := h25
        have q29 := h25.1.symm
        subst q29
        have q30 := h25.2
        refine And.intro ⟨by omega, by omega⟩ ?_
        intro v31 e32
        have w33 : v22 = v31 := by rw [e32, e23]
        subst w33
        refine And.intro (Nat.le_of_ble_eq_true rfl) (And.intro ⟨w7, v22, rfl, trivial⟩ ?_)
        intro v34 s36 h35
        have h35 : s36 = s0 ∧ (v34.toInt ≤ w7.toInt ∧ v34.toInt ≤ v22.toInt ∧ (v34.toInt = w7.toInt ∨ v34.toInt = v22.toInt)) := h35
        have q39 := h35.1.symm
        subst q39
        have q40 := h35.2
        intro v41 e42
        have b43 := vg_add e42 (by omega) (by omega)
        exact ⟨rfl, ⟨v24, v34, v41, rfl, (by omega), (by omega), rfl⟩, (by show (0 + (16 - v41.toInt) * 1000000000000).toNat < (0 + (16 - w8.toInt) * 1000000000000).toNat; omega)⟩
  ·
    have z0 : (Int32.ofInt 0).toInt = 0 := by decide
    have z1 : (Int32.ofInt 1).toInt = 1 := by decide
    refine ⟨Nat.le_of_ble_eq_true rfl, [(16, [true, true, true, true], (fun L t => ∃ (x1 : Int32) (x2 : Int32) (x3 : Int32), L = [some (.ref 26), some (.int x1), some (.int x2), some (.int x3)] ∧ (1 : Int) ≤ x3.toInt ∧ x3.toInt ≤ (16 : Int) ∧ t = s0), (fun L _ => (0 + (16 - (vg_li L 3).toInt) * 1000000000000).toNat))], ?_, List.forall_mem_cons.mpr ⟨?_, fun _ h => absurd h List.not_mem_nil⟩⟩
    ·
      refine And.intro ⟨by omega, by omega⟩ ?_
      intro v1 e2
      refine And.intro ⟨by omega, by omega⟩ ?_
      intro v3 e4
      have w5 : v1 = v3 := by rw [e4, e2]
      subst w5
      exact ⟨rfl, ⟨v1, v1, (Int32.ofInt 1), rfl, (by omega), (by omega), rfl⟩, trivial⟩
    ·
      intro L s11 hL
      obtain ⟨w6, w7, w8, rfl, b9, b10, q14⟩ := hL
      have q14 := q14.symm
      subst q14
      intro v15 e16
      have g17 : s0.1 26 0 = v15 := by rw [e16]
      have b18 : (1 : Int) ≤ v15.toInt ∧ v15.toInt ≤ 16 := by rw [e16]; exact Iv_26_0 i0
      refine And.intro (fun c19 => ?_) (fun c19 => ?_)
      · have c19 : v15.toInt ≤ w8.toInt := c19
        intro v20 e21
        show s0 = s0 ∧ (True)
        exact ⟨rfl, (trivial)⟩
      · have c19 : ¬ (v15.toInt ≤ w8.toInt) := c19
        refine And.intro ⟨by omega, by omega⟩ ?_
        intro v22 e23
        refine And.intro (Nat.le_of_ble_eq_true rfl) (And.intro ⟨w6, v22, rfl, trivial⟩ ?_)
        intro v24 s26 h25
        have h25 : s26 = s0 ∧ (w6.toInt ≤ v24.toInt ∧ v22.toInt ≤ v24.toInt ∧ (v24.toInt = w6.toInt ∨ v24.toInt = v22.toInt)) := h25
        have q29 := h25.1.symm
        subst q29
        have q30 := h25.2
        refine And.intro ⟨by omega, by omega⟩ ?_
        intro v31 e32
        have w33 : v22 = v31 := by rw [e32, e23]
        subst w33
        refine And.intro (Nat.le_of_ble_eq_true rfl) (And.intro ⟨w7, v22, rfl, trivial⟩ ?_)
        intro v34 s36 h35
        have h35 : s36 = s0 ∧ (v34.toInt ≤ w7.toInt ∧ v34.toInt ≤ v22.toInt ∧ (v34.toInt = w7.toInt ∨ v34.toInt = v22.toInt)) := h35
        have q39 := h35.1.symm
        subst q39
        have q40 := h35.2
        intro v41 e42
        have b43 := vg_add e42 (by omega) (by omega)
        exact ⟨rfl, ⟨v24, v34, v41, rfl, (by omega), (by omega), rfl⟩, (by show (0 + (16 - v41.toInt) * 1000000000000).toNat < (0 + (16 - w8.toInt) * 1000000000000).toNat; omega)⟩
def o_X2_chooseRotated : List vg_I := [(0, .iconst 0, 1, 0, 0, 0, 0), (1, .istore_n 2, 1, 0, 0, 0, 0), (2, .iconst 0, 1, 0, 0, 0, 0), (3, .istore_n 3, 1, 0, 0, 0, 0), (4, .iload_n 3, 1, 0, 0, 0, 0), (5, .iload_n 1, 1, 0, 0, 0, 0), (6, .if_icmp .ge 25, 3, 0, 0, 0, 0), (9, .iload_n 2, 1, 0, 0, 0, 0), (10, .iconst 1, 1, 0, 0, 0, 0), (11, .aload_n 0, 1, 0, 0, 0, 0), (12, .getfield 28, 3, 243, 2, 2, 0), (15, .iload_n 3, 1, 0, 0, 0, 0), (16, .iadd, 1, 0, 0, 0, 0), (17, .aload_n 0, 1, 0, 0, 0, 0), (18, .getfield 9, 3, 239, 2, 0, 0), (21, .irem, 1, 0, 0, 0, 0), (22, .ishl, 1, 0, 0, 0, 0), (23, .ior, 1, 0, 0, 0, 0), (24, .istore_n 2, 1, 0, 0, 0, 0), (25, .iinc 3 1, 3, 0, 0, 0, 0), (28, .goto (-24), 3, 0, 0, 0, 0), (31, .iload_n 2, 1, 0, 0, 0, 0), (32, .ireturn, 1, 0, 0, 0, 0)]
set_option maxRecDepth 100000 in
set_option maxHeartbeats 4000000 in
theorem c_X2_chooseRotated (l : Launch) (G : vg_G) (hp : vg_Hp G) : vg_Ct l G vg_sh r_X2_chooseRotated := by
  refine vg_meth hp vg_sh_ok r_X2_chooseRotated k_X2_chooseRotated rfl (fun h => by cases h) o_X2_chooseRotated [] false (by decide +kernel) (by decide +kernel) ⟨_, _, rfl, rfl⟩ (fun _ h => absurd h List.not_mem_nil) (fun h => by cases h) 600 ?_
  intro as s0 hpre
  obtain ⟨r, a1, rfl, hr, i0⟩ := hpre
  have ra1 := vg_rng a1
  simp only [List.mem_cons, List.not_mem_nil, or_false] at hr
  rcases hr with rfl | rfl
  ·
    have z0 : (Int32.ofInt 0).toInt = 0 := by decide
    have z1 : (Int32.ofInt 1).toInt = 1 := by decide
    refine ⟨Nat.le_of_ble_eq_true rfl, [(4, [true, true, true, true], (fun L t => ∃ (x2 : Int32) (x3 : Int32), L = [some (.ref 7), some (.int a1), some (.int x2), some (.int x3)] ∧ (0 : Int) ≤ x3.toInt ∧ t = s0), (fun L _ => (a1.toInt - (vg_li L 3).toInt).toNat))], ?_, List.forall_mem_cons.mpr ⟨?_, fun _ h => absurd h List.not_mem_nil⟩⟩
    ·
      exact ⟨rfl, ⟨(Int32.ofInt 0), (Int32.ofInt 0), rfl, (by omega), rfl⟩, trivial⟩
    ·
      intro L s4 hL
      obtain ⟨w1, w2, rfl, b3, q7⟩ := hL
      have q7 := q7.symm
      subst q7
      refine And.intro (fun c8 => ?_) (fun c8 => ?_)
      · have c8 : a1.toInt ≤ w2.toInt := c8
        show s0 = s0 ∧ (True)
        exact ⟨rfl, (trivial)⟩
      · have c8 : ¬ (a1.toInt ≤ w2.toInt) := c8
        intro v9 e10
        have g11 : s0.1 7 2 = v9 := by rw [e10]
        intro v12 e13
        intro v14 e15
        have g16 : s0.1 7 0 = v14 := by rw [e15]
        have b17 : (1 : Int) ≤ v14.toInt ∧ v14.toInt ≤ 16 := by rw [e15]; exact Iv_7_0 i0
        refine And.intro (by omega) ?_
        intro v18 e19
        have b20 := vg_remx e19 (by omega)
        intro v21 e22
        intro v23 e24
        intro v25 e26
        have b27 := vg_add e26 (by omega) (by omega)
        exact ⟨rfl, ⟨v23, v25, rfl, (by omega), rfl⟩, (by show (a1.toInt - v25.toInt).toNat < (a1.toInt - w2.toInt).toNat; omega)⟩
  ·
    have z0 : (Int32.ofInt 0).toInt = 0 := by decide
    have z1 : (Int32.ofInt 1).toInt = 1 := by decide
    refine ⟨Nat.le_of_ble_eq_true rfl, [(4, [true, true, true, true], (fun L t => ∃ (x2 : Int32) (x3 : Int32), L = [some (.ref 26), some (.int a1), some (.int x2), some (.int x3)] ∧ (0 : Int) ≤ x3.toInt ∧ t = s0), (fun L _ => (a1.toInt - (vg_li L 3).toInt).toNat))], ?_, List.forall_mem_cons.mpr ⟨?_, fun _ h => absurd h List.not_mem_nil⟩⟩
    ·
      exact ⟨rfl, ⟨(Int32.ofInt 0), (Int32.ofInt 0), rfl, (by omega), rfl⟩, trivial⟩
    ·
      intro L s4 hL
      obtain ⟨w1, w2, rfl, b3, q7⟩ := hL
      have q7 := q7.symm
      subst q7
      refine And.intro (fun c8 => ?_) (fun c8 => ?_)
      · have c8 : a1.toInt ≤ w2.toInt := c8
        show s0 = s0 ∧ (True)
        exact ⟨rfl, (trivial)⟩
      · have c8 : ¬ (a1.toInt ≤ w2.toInt) := c8
        intro v9 e10
        have g11 : s0.1 26 2 = v9 := by rw [e10]
        intro v12 e13
        intro v14 e15
        have g16 : s0.1 26 0 = v14 := by rw [e15]
        have b17 : (1 : Int) ≤ v14.toInt ∧ v14.toInt ≤ 16 := by rw [e15]; exact Iv_26_0 i0
        refine And.intro (by omega) ?_
        intro v18 e19
        have b20 := vg_remx e19 (by omega)
        intro v21 e22
        intro v23 e24
        intro v25 e26
        have b27 := vg_add e26 (by omega) (by omega)
        exact ⟨rfl, ⟨v23, v25, rfl, (by omega), rfl⟩, (by show (a1.toInt - v25.toInt).toNat < (a1.toInt - w2.toInt).toNat; omega)⟩
def o_X2_mostDue : List vg_I := [(0, .iconst (-1), 1, 0, 0, 0, 0), (1, .istore_n 2, 1, 0, 0, 0, 0), (2, .iconst 0, 1, 0, 0, 0, 0), (3, .istore_n 3, 1, 0, 0, 0, 0), (4, .iconst 0, 1, 0, 0, 0, 0), (5, .istore 4, 2, 0, 0, 0, 0), (7, .iload 4, 2, 0, 0, 0, 0), (9, .aload_n 0, 1, 0, 0, 0, 0), (10, .getfield 9, 3, 239, 2, 0, 0), (13, .if_icmp .ge 54, 3, 0, 0, 0, 0), (16, .iconst 2, 1, 0, 0, 0, 0), (17, .aload_n 0, 1, 0, 0, 0, 0), (18, .getfield 22, 3, 251, 2, 6, 0), (21, .iload 4, 2, 0, 0, 0, 0), (23, .iaload, 1, 0, 0, 0, 0), (24, .imul, 1, 0, 0, 0, 0), (25, .aload_n 0, 1, 0, 0, 0, 0), (26, .getfield 25, 3, 253, 2, 7, 0), (29, .iload 4, 2, 0, 0, 0, 0), (31, .iaload, 1, 0, 0, 0, 0), (32, .iadd, 1, 0, 0, 0, 0), (33, .istore 5, 2, 0, 0, 0, 0), (35, .iload_n 1, 1, 0, 0, 0, 0), (36, .iload 4, 2, 0, 0, 0, 0), (38, .ishr, 1, 0, 0, 0, 0), (39, .iconst 1, 1, 0, 0, 0, 0), (40, .iand, 1, 0, 0, 0, 0), (41, .ifCond .ne 20, 3, 0, 0, 0, 0), (44, .iload_n 2, 1, 0, 0, 0, 0), (45, .iconst (-1), 1, 0, 0, 0, 0), (46, .if_icmp .eq 9, 3, 0, 0, 0, 0), (49, .iload 5, 2, 0, 0, 0, 0), (51, .iload_n 3, 1, 0, 0, 0, 0), (52, .if_icmp .le 9, 3, 0, 0, 0, 0), (55, .iload 5, 2, 0, 0, 0, 0), (57, .istore_n 3, 1, 0, 0, 0, 0), (58, .iload 4, 2, 0, 0, 0, 0), (60, .istore_n 2, 1, 0, 0, 0, 0), (61, .iinc 4 1, 3, 0, 0, 0, 0), (64, .goto (-57), 3, 0, 0, 0, 0), (67, .iload_n 2, 1, 0, 0, 0, 0), (68, .ireturn, 1, 0, 0, 0, 0)]
set_option maxRecDepth 100000 in
set_option maxHeartbeats 4000000 in
theorem c_X2_mostDue (l : Launch) (G : vg_G) (hp : vg_Hp G) : vg_Ct l G vg_sh r_X2_mostDue := by
  refine vg_meth hp vg_sh_ok r_X2_mostDue k_X2_mostDue rfl (fun h => by cases h) o_X2_mostDue [] false (by decide +kernel) (by decide +kernel) ⟨_, _, rfl, rfl⟩ (fun _ h => absurd h List.not_mem_nil) (fun h => by cases h) 600 ?_
  intro as s0 hpre
  obtain ⟨r, a1, rfl, hr, i0⟩ := hpre
  simp only [List.mem_cons, List.not_mem_nil, or_false] at hr
  rcases hr with rfl | rfl
  ·
    have zm1 : (Int32.ofInt (-1)).toInt = -1 := by decide
    have z0 : (Int32.ofInt 0).toInt = 0 := by decide
    have z1 : (Int32.ofInt 1).toInt = 1 := by decide
    have z2 : (Int32.ofInt 2).toInt = 2 := by decide
    refine ⟨Nat.le_of_ble_eq_true rfl, [(7, [true, true, true, true, true, false], (fun L t => ∃ (x2 : Int32) (x3 : Int32) (x4 : Int32), L = [some (.ref 7), some (.int a1), some (.int x2), some (.int x3), some (.int x4), none] ∧ (0 : Int) ≤ x4.toInt ∧ x4.toInt ≤ (16 : Int) ∧ t = s0), (fun L _ => (0 + (16 - (vg_li L 4).toInt) * 1000000000000).toNat))], ?_, List.forall_mem_cons.mpr ⟨?_, fun _ h => absurd h List.not_mem_nil⟩⟩
    ·
      exact ⟨rfl, ⟨(Int32.ofInt (-1)), (Int32.ofInt 0), (Int32.ofInt 0), rfl, (by omega), (by omega), rfl⟩, trivial⟩
    ·
      intro L s6 hL
      obtain ⟨w1, w2, w3, rfl, b4, b5, q9⟩ := hL
      have q9 := q9.symm
      subst q9
      intro v10 e11
      have g12 : s0.1 7 0 = v10 := by rw [e11]
      have b13 : (1 : Int) ≤ v10.toInt ∧ v10.toInt ≤ 16 := by rw [e11]; exact Iv_7_0 i0
      refine And.intro (fun c14 => ?_) (fun c14 => ?_)
      · have c14 : v10.toInt ≤ w3.toInt := c14
        show s0 = s0 ∧ (True)
        exact ⟨rfl, (trivial)⟩
      · have c14 : ¬ (v10.toInt ≤ w3.toInt) := c14
        refine And.intro ⟨by omega, by omega⟩ ?_
        intro v15 e16
        intro v17 e18
        refine And.intro ⟨by omega, by omega⟩ ?_
        intro v19 e20
        intro v21 e22
        intro v23 e24
        intro v25 e26
        have b27 := vg_and e26 (by omega)
        refine And.intro (fun c28 => ?_) (fun c28 => ?_)
        · have c28 : ¬ v25.toInt = 0 := c28
          intro v29 e30
          have b31 := vg_add e30 (by omega) (by omega)
          exact ⟨rfl, ⟨w1, w2, v29, rfl, (by omega), (by omega), rfl⟩, (by show (0 + (16 - v29.toInt) * 1000000000000).toNat < (0 + (16 - w3.toInt) * 1000000000000).toNat; omega)⟩
        · have c28 : ¬ (¬ v25.toInt = 0) := c28
          refine And.intro (fun c32 => ?_) (fun c32 => ?_)
          · have c32 : w1.toInt = (Int32.ofInt (-1)).toInt := c32
            intro v33 e34
            have b35 := vg_add e34 (by omega) (by omega)
            exact ⟨rfl, ⟨w3, v21, v33, rfl, (by omega), (by omega), rfl⟩, (by show (0 + (16 - v33.toInt) * 1000000000000).toNat < (0 + (16 - w3.toInt) * 1000000000000).toNat; omega)⟩
          · have c32 : ¬ (w1.toInt = (Int32.ofInt (-1)).toInt) := c32
            refine And.intro (fun c36 => ?_) (fun c36 => ?_)
            · have c36 : v21.toInt ≤ w2.toInt := c36
              intro v37 e38
              have b39 := vg_add e38 (by omega) (by omega)
              exact ⟨rfl, ⟨w1, w2, v37, rfl, (by omega), (by omega), rfl⟩, (by show (0 + (16 - v37.toInt) * 1000000000000).toNat < (0 + (16 - w3.toInt) * 1000000000000).toNat; omega)⟩
            · have c36 : ¬ (v21.toInt ≤ w2.toInt) := c36
              intro v40 e41
              have b42 := vg_add e41 (by omega) (by omega)
              exact ⟨rfl, ⟨w3, v21, v40, rfl, (by omega), (by omega), rfl⟩, (by show (0 + (16 - v40.toInt) * 1000000000000).toNat < (0 + (16 - w3.toInt) * 1000000000000).toNat; omega)⟩
  ·
    have zm1 : (Int32.ofInt (-1)).toInt = -1 := by decide
    have z0 : (Int32.ofInt 0).toInt = 0 := by decide
    have z1 : (Int32.ofInt 1).toInt = 1 := by decide
    have z2 : (Int32.ofInt 2).toInt = 2 := by decide
    refine ⟨Nat.le_of_ble_eq_true rfl, [(7, [true, true, true, true, true, false], (fun L t => ∃ (x2 : Int32) (x3 : Int32) (x4 : Int32), L = [some (.ref 26), some (.int a1), some (.int x2), some (.int x3), some (.int x4), none] ∧ (0 : Int) ≤ x4.toInt ∧ x4.toInt ≤ (16 : Int) ∧ t = s0), (fun L _ => (0 + (16 - (vg_li L 4).toInt) * 1000000000000).toNat))], ?_, List.forall_mem_cons.mpr ⟨?_, fun _ h => absurd h List.not_mem_nil⟩⟩
    ·
      exact ⟨rfl, ⟨(Int32.ofInt (-1)), (Int32.ofInt 0), (Int32.ofInt 0), rfl, (by omega), (by omega), rfl⟩, trivial⟩
    ·
      intro L s6 hL
      obtain ⟨w1, w2, w3, rfl, b4, b5, q9⟩ := hL
      have q9 := q9.symm
      subst q9
      intro v10 e11
      have g12 : s0.1 26 0 = v10 := by rw [e11]
      have b13 : (1 : Int) ≤ v10.toInt ∧ v10.toInt ≤ 16 := by rw [e11]; exact Iv_26_0 i0
      refine And.intro (fun c14 => ?_) (fun c14 => ?_)
      · have c14 : v10.toInt ≤ w3.toInt := c14
        show s0 = s0 ∧ (True)
        exact ⟨rfl, (trivial)⟩
      · have c14 : ¬ (v10.toInt ≤ w3.toInt) := c14
        refine And.intro ⟨by omega, by omega⟩ ?_
        intro v15 e16
        intro v17 e18
        refine And.intro ⟨by omega, by omega⟩ ?_
        intro v19 e20
        intro v21 e22
        intro v23 e24
        intro v25 e26
        have b27 := vg_and e26 (by omega)
        refine And.intro (fun c28 => ?_) (fun c28 => ?_)
        · have c28 : ¬ v25.toInt = 0 := c28
          intro v29 e30
          have b31 := vg_add e30 (by omega) (by omega)
          exact ⟨rfl, ⟨w1, w2, v29, rfl, (by omega), (by omega), rfl⟩, (by show (0 + (16 - v29.toInt) * 1000000000000).toNat < (0 + (16 - w3.toInt) * 1000000000000).toNat; omega)⟩
        · have c28 : ¬ (¬ v25.toInt = 0) := c28
          refine And.intro (fun c32 => ?_) (fun c32 => ?_)
          · have c32 : w1.toInt = (Int32.ofInt (-1)).toInt := c32
            intro v33 e34
            have b35 := vg_add e34 (by omega) (by omega)
            exact ⟨rfl, ⟨w3, v21, v33, rfl, (by omega), (by omega), rfl⟩, (by show (0 + (16 - v33.toInt) * 1000000000000).toNat < (0 + (16 - w3.toInt) * 1000000000000).toNat; omega)⟩
          · have c32 : ¬ (w1.toInt = (Int32.ofInt (-1)).toInt) := c32
            refine And.intro (fun c36 => ?_) (fun c36 => ?_)
            · have c36 : v21.toInt ≤ w2.toInt := c36
              intro v37 e38
              have b39 := vg_add e38 (by omega) (by omega)
              exact ⟨rfl, ⟨w1, w2, v37, rfl, (by omega), (by omega), rfl⟩, (by show (0 + (16 - v37.toInt) * 1000000000000).toNat < (0 + (16 - w3.toInt) * 1000000000000).toNat; omega)⟩
            · have c36 : ¬ (v21.toInt ≤ w2.toInt) := c36
              intro v40 e41
              have b42 := vg_add e41 (by omega) (by omega)
              exact ⟨rfl, ⟨w3, v21, v40, rfl, (by omega), (by omega), rfl⟩, (by show (0 + (16 - v40.toInt) * 1000000000000).toNat < (0 + (16 - w3.toInt) * 1000000000000).toNat; omega)⟩
def o_X2_chooseTwice : List vg_I := [(0, .iconst 0, 1, 0, 0, 0, 0), (1, .istore_n 2, 1, 0, 0, 0, 0), (2, .iconst 0, 1, 0, 0, 0, 0), (3, .istore_n 3, 1, 0, 0, 0, 0), (4, .iload_n 3, 1, 0, 0, 0, 0), (5, .iload_n 1, 1, 0, 0, 0, 0), (6, .if_icmp .ge 19, 3, 0, 0, 0, 0), (9, .iload_n 2, 1, 0, 0, 0, 0), (10, .iconst 1, 1, 0, 0, 0, 0), (11, .aload_n 0, 1, 0, 0, 0, 0), (12, .iload_n 2, 1, 0, 0, 0, 0), (13, .invokevirtual 99, 3, 0, 2, 1, 737), (16, .ishl, 1, 0, 0, 0, 0), (17, .ior, 1, 0, 0, 0, 0), (18, .istore_n 2, 1, 0, 0, 0, 0), (19, .iinc 3 1, 3, 0, 0, 0, 0), (22, .goto (-18), 3, 0, 0, 0, 0), (25, .iload_n 2, 1, 0, 0, 0, 0), (26, .ireturn, 1, 0, 0, 0, 0)]
set_option maxRecDepth 100000 in
set_option maxHeartbeats 4000000 in
theorem c_X2_chooseTwice (l : Launch) (G : vg_G) (hp : vg_Hp G) : vg_Ct l G vg_sh r_X2_chooseTwice := by
  refine vg_meth hp vg_sh_ok r_X2_chooseTwice k_X2_chooseTwice rfl (fun h => by cases h) o_X2_chooseTwice [r_X2_mostDue] false (by decide +kernel) (by decide +kernel) ⟨_, _, rfl, rfl⟩ (List.forall_mem_cons.mpr ⟨⟨c_X2_mostDue l G hp, Nat.le_of_ble_eq_true rfl, Nat.le_of_ble_eq_true rfl⟩, fun _ h => absurd h List.not_mem_nil⟩) (fun h => by cases h) 600 ?_
  intro as s0 hpre
  obtain ⟨r, a1, rfl, hr, i0⟩ := hpre
  have ra1 := vg_rng a1
  simp only [List.mem_cons, List.not_mem_nil, or_false] at hr
  rcases hr with rfl | rfl
  ·
    have z0 : (Int32.ofInt 0).toInt = 0 := by decide
    have z1 : (Int32.ofInt 1).toInt = 1 := by decide
    refine ⟨Nat.le_of_ble_eq_true rfl, [(4, [true, true, true, true], (fun L t => ∃ (x2 : Int32) (x3 : Int32), L = [some (.ref 7), some (.int a1), some (.int x2), some (.int x3)] ∧ (0 : Int) ≤ x3.toInt ∧ t = s0), (fun L _ => (a1.toInt - (vg_li L 3).toInt).toNat))], ?_, List.forall_mem_cons.mpr ⟨?_, fun _ h => absurd h List.not_mem_nil⟩⟩
    ·
      exact ⟨rfl, ⟨(Int32.ofInt 0), (Int32.ofInt 0), rfl, (by omega), rfl⟩, trivial⟩
    ·
      intro L s4 hL
      obtain ⟨w1, w2, rfl, b3, q7⟩ := hL
      have q7 := q7.symm
      subst q7
      refine And.intro (fun c8 => ?_) (fun c8 => ?_)
      · have c8 : a1.toInt ≤ w2.toInt := c8
        show s0 = s0 ∧ (True)
        exact ⟨rfl, (trivial)⟩
      · have c8 : ¬ (a1.toInt ≤ w2.toInt) := c8
        refine And.intro (Nat.le_of_ble_eq_true rfl) (And.intro ⟨7, w1, rfl, by decide, i0⟩ ?_)
        intro v9 s11 h10
        have h10 : s11 = s0 ∧ (True) := h10
        have q14 := h10.1.symm
        subst q14
        intro v15 e16
        intro v17 e18
        intro v19 e20
        have b21 := vg_add e20 (by omega) (by omega)
        exact ⟨rfl, ⟨v17, v19, rfl, (by omega), rfl⟩, (by show (a1.toInt - v19.toInt).toNat < (a1.toInt - w2.toInt).toNat; omega)⟩
  ·
    have z0 : (Int32.ofInt 0).toInt = 0 := by decide
    have z1 : (Int32.ofInt 1).toInt = 1 := by decide
    refine ⟨Nat.le_of_ble_eq_true rfl, [(4, [true, true, true, true], (fun L t => ∃ (x2 : Int32) (x3 : Int32), L = [some (.ref 26), some (.int a1), some (.int x2), some (.int x3)] ∧ (0 : Int) ≤ x3.toInt ∧ t = s0), (fun L _ => (a1.toInt - (vg_li L 3).toInt).toNat))], ?_, List.forall_mem_cons.mpr ⟨?_, fun _ h => absurd h List.not_mem_nil⟩⟩
    ·
      exact ⟨rfl, ⟨(Int32.ofInt 0), (Int32.ofInt 0), rfl, (by omega), rfl⟩, trivial⟩
    ·
      intro L s4 hL
      obtain ⟨w1, w2, rfl, b3, q7⟩ := hL
      have q7 := q7.symm
      subst q7
      refine And.intro (fun c8 => ?_) (fun c8 => ?_)
      · have c8 : a1.toInt ≤ w2.toInt := c8
        show s0 = s0 ∧ (True)
        exact ⟨rfl, (trivial)⟩
      · have c8 : ¬ (a1.toInt ≤ w2.toInt) := c8
        refine And.intro (Nat.le_of_ble_eq_true rfl) (And.intro ⟨26, w1, rfl, by decide, i0⟩ ?_)
        intro v9 s11 h10
        have h10 : s11 = s0 ∧ (True) := h10
        have q14 := h10.1.symm
        subst q14
        intro v15 e16
        intro v17 e18
        intro v19 e20
        have b21 := vg_add e20 (by omega) (by omega)
        exact ⟨rfl, ⟨v17, v19, rfl, (by omega), rfl⟩, (by show (a1.toInt - v19.toInt).toNat < (a1.toInt - w2.toInt).toNat; omega)⟩
def o_X2_choose : List vg_I := [(0, .aload_n 0, 1, 0, 0, 0, 0), (1, .getfield 50, 3, 241, 2, 1, 0), (4, .lookupswitch 40 #[(1, 28), (2, 34)], 28, 0, 0, 0, 0), (32, .aload_n 0, 1, 0, 0, 0, 0), (33, .iload_n 1, 1, 0, 0, 0, 0), (34, .invokevirtual 93, 3, 0, 2, 1, 729), (37, .ireturn, 1, 0, 0, 0, 0), (38, .aload_n 0, 1, 0, 0, 0, 0), (39, .iload_n 1, 1, 0, 0, 0, 0), (40, .invokevirtual 96, 3, 1, 2, 1, 733), (43, .ireturn, 1, 0, 0, 0, 0), (44, .iconst 1, 1, 0, 0, 0, 0), (45, .iload_n 1, 1, 0, 0, 0, 0), (46, .ishl, 1, 0, 0, 0, 0), (47, .iconst 1, 1, 0, 0, 0, 0), (48, .isub, 1, 0, 0, 0, 0), (49, .ireturn, 1, 0, 0, 0, 0)]
set_option maxRecDepth 100000 in
set_option maxHeartbeats 4000000 in
theorem c_X2_choose (l : Launch) (G : vg_G) (hp : vg_Hp G) : vg_Ct l G vg_sh r_X2_choose := by
  refine vg_meth hp vg_sh_ok r_X2_choose k_X2_choose rfl (fun h => by cases h) o_X2_choose [r_X2_chooseRotated, r_X2_chooseTwice] false (by decide +kernel) (by decide +kernel) ⟨_, _, rfl, rfl⟩ (List.forall_mem_cons.mpr ⟨⟨c_X2_chooseRotated l G hp, Nat.le_of_ble_eq_true rfl, Nat.le_of_ble_eq_true rfl⟩, List.forall_mem_cons.mpr ⟨⟨c_X2_chooseTwice l G hp, Nat.le_of_ble_eq_true rfl, Nat.le_of_ble_eq_true rfl⟩, fun _ h => absurd h List.not_mem_nil⟩⟩) (fun h => by cases h) 600 ?_
  intro as s0 hpre
  obtain ⟨r, a1, rfl, hr, i0⟩ := hpre
  simp only [List.mem_cons, List.not_mem_nil, or_false] at hr
  rcases hr with rfl | rfl
  ·
    have z1 : (Int32.ofInt 1).toInt = 1 := by decide
    refine ⟨Nat.le_of_ble_eq_true rfl, [], ?_, fun _ h => absurd h List.not_mem_nil⟩
    ·
      intro v1 e2
      have g3 : s0.1 7 1 = v1 := by rw [e2]
      refine And.intro (fun c4 => ?_) (fun c4 => ?_)
      · have c4 : v1.toInt = (1) := c4
        refine And.intro (Nat.le_of_ble_eq_true rfl) (And.intro ⟨7, a1, rfl, by decide, i0⟩ ?_)
        intro v5 s7 h6
        have h6 : s7 = s0 ∧ (True) := h6
        have q10 := h6.1.symm
        subst q10
        show s0 = s0 ∧ (True)
        exact ⟨rfl, (trivial)⟩
      have c4 : ¬ (v1.toInt = (1)) := c4
      refine And.intro (fun c11 => ?_) (fun c11 => ?_)
      · have c11 : v1.toInt = (2) := c11
        refine And.intro (Nat.le_of_ble_eq_true rfl) (And.intro ⟨7, a1, rfl, by decide, i0⟩ ?_)
        intro v12 s14 h13
        have h13 : s14 = s0 ∧ (True) := h13
        have q17 := h13.1.symm
        subst q17
        show s0 = s0 ∧ (True)
        exact ⟨rfl, (trivial)⟩
      have c11 : ¬ (v1.toInt = (2)) := c11
      intro v18 e19
      intro v20 e21
      show s0 = s0 ∧ (True)
      exact ⟨rfl, (trivial)⟩
  ·
    have z1 : (Int32.ofInt 1).toInt = 1 := by decide
    refine ⟨Nat.le_of_ble_eq_true rfl, [], ?_, fun _ h => absurd h List.not_mem_nil⟩
    ·
      intro v1 e2
      have g3 : s0.1 26 1 = v1 := by rw [e2]
      refine And.intro (fun c4 => ?_) (fun c4 => ?_)
      · have c4 : v1.toInt = (1) := c4
        refine And.intro (Nat.le_of_ble_eq_true rfl) (And.intro ⟨26, a1, rfl, by decide, i0⟩ ?_)
        intro v5 s7 h6
        have h6 : s7 = s0 ∧ (True) := h6
        have q10 := h6.1.symm
        subst q10
        show s0 = s0 ∧ (True)
        exact ⟨rfl, (trivial)⟩
      have c4 : ¬ (v1.toInt = (1)) := c4
      refine And.intro (fun c11 => ?_) (fun c11 => ?_)
      · have c11 : v1.toInt = (2) := c11
        refine And.intro (Nat.le_of_ble_eq_true rfl) (And.intro ⟨26, a1, rfl, by decide, i0⟩ ?_)
        intro v12 s14 h13
        have h13 : s14 = s0 ∧ (True) := h13
        have q17 := h13.1.symm
        subst q17
        show s0 = s0 ∧ (True)
        exact ⟨rfl, (trivial)⟩
      have c11 : ¬ (v1.toInt = (2)) := c11
      intro v18 e19
      intro v20 e21
      show s0 = s0 ∧ (True)
      exact ⟨rfl, (trivial)⟩
def o_X2_runUpDebts : List vg_I := [(0, .iconst 0, 1, 0, 0, 0, 0), (1, .istore_n 2, 1, 0, 0, 0, 0), (2, .iload_n 2, 1, 0, 0, 0, 0), (3, .aload_n 0, 1, 0, 0, 0, 0), (4, .getfield 9, 3, 239, 2, 0, 0), (7, .if_icmp .ge 75, 3, 0, 0, 0, 0), (10, .aload_n 0, 1, 0, 0, 0, 0), (11, .getfield 31, 3, 245, 2, 3, 0), (14, .iload_n 2, 1, 0, 0, 0, 0), (15, .ishr, 1, 0, 0, 0, 0), (16, .iconst 1, 1, 0, 0, 0, 0), (17, .iand, 1, 0, 0, 0, 0), (18, .iconst 1, 1, 0, 0, 0, 0), (19, .if_icmp .ne 10, 3, 0, 0, 0, 0), (22, .aload_n 0, 1, 0, 0, 0, 0), (23, .getfield 9, 3, 239, 2, 0, 0), (26, .goto 4, 3, 0, 0, 0, 0), (29, .iconst 0, 1, 0, 0, 0, 0), (30, .istore_n 3, 1, 0, 0, 0, 0), (31, .aload_n 0, 1, 0, 0, 0, 0), (32, .getfield 22, 3, 251, 2, 6, 0), (35, .iload_n 2, 1, 0, 0, 0, 0), (36, .aload_n 0, 1, 0, 0, 0, 0), (37, .getfield 22, 3, 251, 2, 6, 0), (40, .iload_n 2, 1, 0, 0, 0, 0), (41, .iaload, 1, 0, 0, 0, 0), (42, .iload_n 1, 1, 0, 0, 0, 0), (43, .iadd, 1, 0, 0, 0, 0), (44, .iload_n 3, 1, 0, 0, 0, 0), (45, .isub, 1, 0, 0, 0, 0), (46, .ldc 102, 2, 745, 0, 0, 1000000), (48, .invokestatic 103, 3, 0, 2, 2, 3), (51, .iastore, 1, 0, 0, 0, 0), (52, .aload_n 0, 1, 0, 0, 0, 0), (53, .getfield 25, 3, 253, 2, 7, 0), (56, .iload_n 2, 1, 0, 0, 0, 0), (57, .aload_n 0, 1, 0, 0, 0, 0), (58, .getfield 25, 3, 253, 2, 7, 0), (61, .iload_n 2, 1, 0, 0, 0, 0), (62, .iaload, 1, 0, 0, 0, 0), (63, .aload_n 0, 1, 0, 0, 0, 0), (64, .getfield 22, 3, 251, 2, 6, 0), (67, .iload_n 2, 1, 0, 0, 0, 0), (68, .iaload, 1, 0, 0, 0, 0), (69, .iadd, 1, 0, 0, 0, 0), (70, .ldc 102, 2, 745, 0, 0, 1000000), (72, .invokestatic 103, 3, 0, 2, 2, 3), (75, .iastore, 1, 0, 0, 0, 0), (76, .iinc 2 1, 3, 0, 0, 0, 0), (79, .goto (-77), 3, 0, 0, 0, 0), (82, .return_, 1, 0, 0, 0, 0)]
set_option maxRecDepth 100000 in
set_option maxHeartbeats 4000000 in
theorem c_X2_runUpDebts (l : Launch) (G : vg_G) (hp : vg_Hp G) : vg_Ct l G vg_sh r_X2_runUpDebts := by
  refine vg_meth hp vg_sh_ok r_X2_runUpDebts k_X2_runUpDebts rfl (fun h => by cases h) o_X2_runUpDebts [r_X10_putTo] false (by decide +kernel) (by decide +kernel) ⟨_, _, rfl, rfl⟩ (List.forall_mem_cons.mpr ⟨⟨c_X10_putTo l G hp, Nat.le_of_ble_eq_true rfl, Nat.le_of_ble_eq_true rfl⟩, fun _ h => absurd h List.not_mem_nil⟩) (fun h => by cases h) 600 ?_
  intro as s0 hpre
  obtain ⟨r, a1, rfl, hr, i0⟩ := hpre
  simp only [List.mem_cons, List.not_mem_nil, or_false] at hr
  rcases hr with rfl | rfl
  ·
    have z0 : (Int32.ofInt 0).toInt = 0 := by decide
    have z1 : (Int32.ofInt 1).toInt = 1 := by decide
    have z1000000 : (Int32.ofInt 1000000).toInt = 1000000 := by decide
    refine ⟨Nat.le_of_ble_eq_true rfl, [(2, [true, true, true, false], (fun L t => ∃ (x2 : Int32), L = [some (.ref 7), some (.int a1), some (.int x2), none] ∧ (0 : Int) ≤ x2.toInt ∧ x2.toInt ≤ (16 : Int) ∧ Iv t ∧ Kp s0 t), (fun L _ => (0 + (16 - (vg_li L 2).toInt) * 1000000000000).toNat))], ?_, List.forall_mem_cons.mpr ⟨?_, fun _ h => absurd h List.not_mem_nil⟩⟩
    ·
      exact ⟨rfl, ⟨(Int32.ofInt 0), rfl, (by omega), (by omega), i0, Kx.rf⟩, trivial⟩
    ·
      intro L s4 hL
      obtain ⟨w1, rfl, b2, b3, i5, k6⟩ := hL
      intro v7 e8
      have g9 : s4.1 7 0 = v7 := by rw [e8]
      have b10 : (1 : Int) ≤ v7.toInt ∧ v7.toInt ≤ 16 := by rw [e8]; exact Iv_7_0 i5
      refine And.intro (fun c11 => ?_) (fun c11 => ?_)
      · have c11 : v7.toInt ≤ w1.toInt := c11
        show Iv s4 ∧ Kp s0 s4 ∧ (True)
        exact ⟨i5, k6, (trivial)⟩
      · have c11 : ¬ (v7.toInt ≤ w1.toInt) := c11
        intro v12 e13
        have g14 : s4.1 7 3 = v12 := by rw [e13]
        intro v15 e16
        intro v17 e18
        have b19 := vg_and e18 (by omega)
        refine And.intro (fun c20 => ?_) (fun c20 => ?_)
        · have c20 : ¬ v17.toInt = (Int32.ofInt 1).toInt := c20
          refine And.intro ⟨by omega, by omega⟩ ?_
          intro v21 e22
          intro v23 e24
          intro v25 e26
          refine And.intro (Nat.le_of_ble_eq_true rfl) (And.intro ⟨v25, (Int32.ofInt 1000000), rfl, trivial⟩ ?_)
          intro v27 s29 h28
          have h28 : s29 = s4 ∧ (True) := h28
          have q32 := h28.1.symm
          subst q32
          refine And.intro ⟨by omega, by omega⟩ ?_
          intro s33 e34
          have i35 : Iv s33 := Iv.a1 i5 e34 rfl
          have k36 : Kp s0 s33 := Kx.u1 k6 e34 rfl
          refine And.intro ⟨by omega, by omega⟩ ?_
          intro v37 e38
          refine And.intro ⟨by omega, by omega⟩ ?_
          intro v39 e40
          intro v41 e42
          refine And.intro (Nat.le_of_ble_eq_true rfl) (And.intro ⟨v41, (Int32.ofInt 1000000), rfl, trivial⟩ ?_)
          intro v43 s45 h44
          have h44 : s45 = s33 ∧ (True) := h44
          have q48 := h44.1.symm
          subst q48
          refine And.intro ⟨by omega, by omega⟩ ?_
          intro s49 e50
          have i51 : Iv s49 := Iv.a1 i35 e50 rfl
          have k52 : Kp s0 s49 := Kx.u1 k36 e50 rfl
          intro v53 e54
          have b55 := vg_add e54 (by omega) (by omega)
          exact ⟨rfl, ⟨v53, rfl, (by omega), (by omega), i51, k52⟩, (by show (0 + (16 - v53.toInt) * 1000000000000).toNat < (0 + (16 - w1.toInt) * 1000000000000).toNat; omega)⟩
        · have c20 : ¬ (¬ v17.toInt = (Int32.ofInt 1).toInt) := c20
          intro v56 e57
          have w58 : v7 = v56 := by rw [e57, g9]
          subst w58
          refine And.intro ⟨by omega, by omega⟩ ?_
          intro v59 e60
          intro v61 e62
          intro v63 e64
          refine And.intro (Nat.le_of_ble_eq_true rfl) (And.intro ⟨v63, (Int32.ofInt 1000000), rfl, trivial⟩ ?_)
          intro v65 s67 h66
          have h66 : s67 = s4 ∧ (True) := h66
          have q70 := h66.1.symm
          subst q70
          refine And.intro ⟨by omega, by omega⟩ ?_
          intro s71 e72
          have i73 : Iv s71 := Iv.a1 i5 e72 rfl
          have k74 : Kp s0 s71 := Kx.u1 k6 e72 rfl
          refine And.intro ⟨by omega, by omega⟩ ?_
          intro v75 e76
          refine And.intro ⟨by omega, by omega⟩ ?_
          intro v77 e78
          intro v79 e80
          refine And.intro (Nat.le_of_ble_eq_true rfl) (And.intro ⟨v79, (Int32.ofInt 1000000), rfl, trivial⟩ ?_)
          intro v81 s83 h82
          have h82 : s83 = s71 ∧ (True) := h82
          have q86 := h82.1.symm
          subst q86
          refine And.intro ⟨by omega, by omega⟩ ?_
          intro s87 e88
          have i89 : Iv s87 := Iv.a1 i73 e88 rfl
          have k90 : Kp s0 s87 := Kx.u1 k74 e88 rfl
          intro v91 e92
          have b93 := vg_add e92 (by omega) (by omega)
          exact ⟨rfl, ⟨v91, rfl, (by omega), (by omega), i89, k90⟩, (by show (0 + (16 - v91.toInt) * 1000000000000).toNat < (0 + (16 - w1.toInt) * 1000000000000).toNat; omega)⟩
  ·
    have z0 : (Int32.ofInt 0).toInt = 0 := by decide
    have z1 : (Int32.ofInt 1).toInt = 1 := by decide
    have z1000000 : (Int32.ofInt 1000000).toInt = 1000000 := by decide
    refine ⟨Nat.le_of_ble_eq_true rfl, [(2, [true, true, true, false], (fun L t => ∃ (x2 : Int32), L = [some (.ref 26), some (.int a1), some (.int x2), none] ∧ (0 : Int) ≤ x2.toInt ∧ x2.toInt ≤ (16 : Int) ∧ Iv t ∧ Kp s0 t), (fun L _ => (0 + (16 - (vg_li L 2).toInt) * 1000000000000).toNat))], ?_, List.forall_mem_cons.mpr ⟨?_, fun _ h => absurd h List.not_mem_nil⟩⟩
    ·
      exact ⟨rfl, ⟨(Int32.ofInt 0), rfl, (by omega), (by omega), i0, Kx.rf⟩, trivial⟩
    ·
      intro L s4 hL
      obtain ⟨w1, rfl, b2, b3, i5, k6⟩ := hL
      intro v7 e8
      have g9 : s4.1 26 0 = v7 := by rw [e8]
      have b10 : (1 : Int) ≤ v7.toInt ∧ v7.toInt ≤ 16 := by rw [e8]; exact Iv_26_0 i5
      refine And.intro (fun c11 => ?_) (fun c11 => ?_)
      · have c11 : v7.toInt ≤ w1.toInt := c11
        show Iv s4 ∧ Kp s0 s4 ∧ (True)
        exact ⟨i5, k6, (trivial)⟩
      · have c11 : ¬ (v7.toInt ≤ w1.toInt) := c11
        intro v12 e13
        have g14 : s4.1 26 3 = v12 := by rw [e13]
        intro v15 e16
        intro v17 e18
        have b19 := vg_and e18 (by omega)
        refine And.intro (fun c20 => ?_) (fun c20 => ?_)
        · have c20 : ¬ v17.toInt = (Int32.ofInt 1).toInt := c20
          refine And.intro ⟨by omega, by omega⟩ ?_
          intro v21 e22
          intro v23 e24
          intro v25 e26
          refine And.intro (Nat.le_of_ble_eq_true rfl) (And.intro ⟨v25, (Int32.ofInt 1000000), rfl, trivial⟩ ?_)
          intro v27 s29 h28
          have h28 : s29 = s4 ∧ (True) := h28
          have q32 := h28.1.symm
          subst q32
          refine And.intro ⟨by omega, by omega⟩ ?_
          intro s33 e34
          have i35 : Iv s33 := Iv.a1 i5 e34 rfl
          have k36 : Kp s0 s33 := Kx.u1 k6 e34 rfl
          refine And.intro ⟨by omega, by omega⟩ ?_
          intro v37 e38
          refine And.intro ⟨by omega, by omega⟩ ?_
          intro v39 e40
          intro v41 e42
          refine And.intro (Nat.le_of_ble_eq_true rfl) (And.intro ⟨v41, (Int32.ofInt 1000000), rfl, trivial⟩ ?_)
          intro v43 s45 h44
          have h44 : s45 = s33 ∧ (True) := h44
          have q48 := h44.1.symm
          subst q48
          refine And.intro ⟨by omega, by omega⟩ ?_
          intro s49 e50
          have i51 : Iv s49 := Iv.a1 i35 e50 rfl
          have k52 : Kp s0 s49 := Kx.u1 k36 e50 rfl
          intro v53 e54
          have b55 := vg_add e54 (by omega) (by omega)
          exact ⟨rfl, ⟨v53, rfl, (by omega), (by omega), i51, k52⟩, (by show (0 + (16 - v53.toInt) * 1000000000000).toNat < (0 + (16 - w1.toInt) * 1000000000000).toNat; omega)⟩
        · have c20 : ¬ (¬ v17.toInt = (Int32.ofInt 1).toInt) := c20
          intro v56 e57
          have w58 : v7 = v56 := by rw [e57, g9]
          subst w58
          refine And.intro ⟨by omega, by omega⟩ ?_
          intro v59 e60
          intro v61 e62
          intro v63 e64
          refine And.intro (Nat.le_of_ble_eq_true rfl) (And.intro ⟨v63, (Int32.ofInt 1000000), rfl, trivial⟩ ?_)
          intro v65 s67 h66
          have h66 : s67 = s4 ∧ (True) := h66
          have q70 := h66.1.symm
          subst q70
          refine And.intro ⟨by omega, by omega⟩ ?_
          intro s71 e72
          have i73 : Iv s71 := Iv.a1 i5 e72 rfl
          have k74 : Kp s0 s71 := Kx.u1 k6 e72 rfl
          refine And.intro ⟨by omega, by omega⟩ ?_
          intro v75 e76
          refine And.intro ⟨by omega, by omega⟩ ?_
          intro v77 e78
          intro v79 e80
          refine And.intro (Nat.le_of_ble_eq_true rfl) (And.intro ⟨v79, (Int32.ofInt 1000000), rfl, trivial⟩ ?_)
          intro v81 s83 h82
          have h82 : s83 = s71 ∧ (True) := h82
          have q86 := h82.1.symm
          subst q86
          refine And.intro ⟨by omega, by omega⟩ ?_
          intro s87 e88
          have i89 : Iv s87 := Iv.a1 i73 e88 rfl
          have k90 : Kp s0 s87 := Kx.u1 k74 e88 rfl
          intro v91 e92
          have b93 := vg_add e92 (by omega) (by omega)
          exact ⟨rfl, ⟨v91, rfl, (by omega), (by omega), i89, k90⟩, (by show (0 + (16 - v91.toInt) * 1000000000000).toNat < (0 + (16 - w1.toInt) * 1000000000000).toNat; omega)⟩
def o_X2_take : List vg_I := [(0, .aload_n 0, 1, 0, 0, 0, 0), (1, .aload_n 0, 1, 0, 0, 0, 0), (2, .iload_n 1, 1, 0, 0, 0, 0), (3, .invokevirtual 75, 3, 0, 2, 1, 725), (6, .putfield 31, 3, 245, 2, 3, 0), (9, .iconst 0, 1, 0, 0, 0, 0), (10, .istore_n 2, 1, 0, 0, 0, 0), (11, .iload_n 2, 1, 0, 0, 0, 0), (12, .aload_n 0, 1, 0, 0, 0, 0), (13, .getfield 9, 3, 239, 2, 0, 0), (16, .if_icmp .ge 26, 3, 0, 0, 0, 0), (19, .aload_n 0, 1, 0, 0, 0, 0), (20, .getfield 19, 3, 249, 2, 5, 0), (23, .iload_n 2, 1, 0, 0, 0, 0), (24, .dup2, 1, 0, 0, 0, 0), (25, .iaload, 1, 0, 0, 0, 0), (26, .aload_n 0, 1, 0, 0, 0, 0), (27, .getfield 31, 3, 245, 2, 3, 0), (30, .iload_n 2, 1, 0, 0, 0, 0), (31, .ishr, 1, 0, 0, 0, 0), (32, .iconst 1, 1, 0, 0, 0, 0), (33, .iand, 1, 0, 0, 0, 0), (34, .iadd, 1, 0, 0, 0, 0), (35, .iastore, 1, 0, 0, 0, 0), (36, .iinc 2 1, 3, 0, 0, 0, 0), (39, .goto (-28), 3, 0, 0, 0, 0), (42, .aload_n 0, 1, 0, 0, 0, 0), (43, .getfield 50, 3, 241, 2, 1, 0), (46, .iconst 1, 1, 0, 0, 0, 0), (47, .if_icmp .ne 18, 3, 0, 0, 0, 0), (50, .aload_n 0, 1, 0, 0, 0, 0), (51, .aload_n 0, 1, 0, 0, 0, 0), (52, .getfield 28, 3, 243, 2, 2, 0), (55, .iload_n 1, 1, 0, 0, 0, 0), (56, .iadd, 1, 0, 0, 0, 0), (57, .aload_n 0, 1, 0, 0, 0, 0), (58, .getfield 9, 3, 239, 2, 0, 0), (61, .irem, 1, 0, 0, 0, 0), (62, .putfield 28, 3, 243, 2, 2, 0), (65, .aload_n 0, 1, 0, 0, 0, 0), (66, .getfield 50, 3, 241, 2, 1, 0), (69, .iconst 2, 1, 0, 0, 0, 0), (70, .if_icmp .ne 8, 3, 0, 0, 0, 0), (73, .aload_n 0, 1, 0, 0, 0, 0), (74, .iload_n 1, 1, 0, 0, 0, 0), (75, .invokevirtual 78, 3, 1, 2, 1, 741), (78, .aload_n 0, 1, 0, 0, 0, 0), (79, .aload_n 0, 1, 0, 0, 0, 0), (80, .getfield 31, 3, 245, 2, 3, 0), (83, .invokevirtual 62, 3, 2, 2, 1, 560), (86, .istore_n 2, 1, 0, 0, 0, 0), (87, .aload_n 0, 1, 0, 0, 0, 0), (88, .dup, 1, 0, 0, 0, 0), (89, .getfield 47, 3, 259, 2, 10, 0), (92, .iload_n 2, 1, 0, 0, 0, 0), (93, .i2l, 1, 0, 0, 0, 0), (94, .ladd, 1, 0, 0, 0, 0), (95, .putfield 47, 3, 259, 2, 10, 2), (98, .aload_n 0, 1, 0, 0, 0, 0), (99, .dup, 1, 0, 0, 0, 0), (100, .getfield 40, 3, 255, 2, 8, 0), (103, .aload_n 0, 1, 0, 0, 0, 0), (104, .getfield 9, 3, 239, 2, 0, 0), (107, .i2l, 1, 0, 0, 0, 0), (108, .iload_n 2, 1, 0, 0, 0, 0), (109, .i2l, 1, 0, 0, 0, 0), (110, .lmul, 1, 0, 0, 0, 0), (111, .iload_n 1, 1, 0, 0, 0, 0), (112, .i2l, 1, 0, 0, 0, 0), (113, .aload_n 0, 1, 0, 0, 0, 0), (114, .invokevirtual 82, 3, 3, 2, 0, 747), (117, .i2l, 1, 0, 0, 0, 0), (118, .lmul, 1, 0, 0, 0, 0), (119, .lsub, 1, 0, 0, 0, 0), (120, .ladd, 1, 0, 0, 0, 0), (121, .putfield 40, 3, 255, 2, 8, 2), (124, .aload_n 0, 1, 0, 0, 0, 0), (125, .aload_n 0, 1, 0, 0, 0, 0), (126, .getfield 44, 3, 257, 2, 9, 0), (129, .aload_n 0, 1, 0, 0, 0, 0), (130, .getfield 40, 3, 255, 2, 8, 0), (133, .invokestatic 86, 3, 4, 1, 1, 748), (136, .invokestatic 90, 3, 5, 1, 2, 749), (139, .putfield 44, 3, 257, 2, 9, 2), (142, .iload_n 2, 1, 0, 0, 0, 0), (143, .ireturn, 1, 0, 0, 0, 0)]
set_option maxRecDepth 100000 in
set_option maxHeartbeats 4000000 in
theorem c_X2_take (l : Launch) (G : vg_G) (hp : vg_Hp G) : vg_Ct l G vg_sh r_X2_take := by
  refine vg_meth hp vg_sh_ok r_X2_take k_X2_take rfl (fun h => by cases h) o_X2_take [r_X2_choose, r_X2_runUpDebts, r_X2_weightsOf, r_X2_allWeights, r_J9_abs_067f4, r_J9_max_f86c9] false (by decide +kernel) (by decide +kernel) ⟨_, _, rfl, rfl⟩ (List.forall_mem_cons.mpr ⟨⟨c_X2_choose l G hp, Nat.le_of_ble_eq_true rfl, Nat.le_of_ble_eq_true rfl⟩, List.forall_mem_cons.mpr ⟨⟨c_X2_runUpDebts l G hp, Nat.le_of_ble_eq_true rfl, Nat.le_of_ble_eq_true rfl⟩, List.forall_mem_cons.mpr ⟨⟨c_X2_weightsOf l G hp, Nat.le_of_ble_eq_true rfl, Nat.le_of_ble_eq_true rfl⟩, List.forall_mem_cons.mpr ⟨⟨c_X2_allWeights l G hp, Nat.le_of_ble_eq_true rfl, Nat.le_of_ble_eq_true rfl⟩, List.forall_mem_cons.mpr ⟨⟨c_J9_abs_067f4 l G hp, Nat.le_of_ble_eq_true rfl, Nat.le_of_ble_eq_true rfl⟩, List.forall_mem_cons.mpr ⟨⟨c_J9_max_f86c9 l G hp, Nat.le_of_ble_eq_true rfl, Nat.le_of_ble_eq_true rfl⟩, fun _ h => absurd h List.not_mem_nil⟩⟩⟩⟩⟩⟩) (fun h => by cases h) 600 ?_
  intro as s0 hpre
  obtain ⟨r, a1, rfl, hr, i0⟩ := hpre
  simp only [List.mem_cons, List.not_mem_nil, or_false] at hr
  rcases hr with rfl | rfl
  ·
    have z0 : (Int32.ofInt 0).toInt = 0 := by decide
    have z1 : (Int32.ofInt 1).toInt = 1 := by decide
    have z2 : (Int32.ofInt 2).toInt = 2 := by decide
    refine ⟨Nat.le_of_ble_eq_true rfl, [(11, [true, true, true], (fun L t => ∃ (x2 : Int32), L = [some (.ref 7), some (.int a1), some (.int x2)] ∧ (0 : Int) ≤ x2.toInt ∧ x2.toInt ≤ (16 : Int) ∧ Iv t ∧ Kp s0 t), (fun L _ => (0 + (16 - (vg_li L 2).toInt) * 1000000000000).toNat))], ?_, List.forall_mem_cons.mpr ⟨?_, fun _ h => absurd h List.not_mem_nil⟩⟩
    ·
      refine And.intro (Nat.le_of_ble_eq_true rfl) (And.intro ⟨7, a1, rfl, by decide, i0⟩ ?_)
      intro v1 s3 h2
      have h2 : s3 = s0 ∧ (True) := h2
      have q6 := h2.1.symm
      subst q6
      intro s7 e8
      have i9 : Iv s7 := Iv.u1 i0 e8 rfl
      have k10 : Kp s0 s7 := Kx.u1 Kx.rf e8 rfl
      exact ⟨rfl, ⟨(Int32.ofInt 0), rfl, (by omega), (by omega), i9, k10⟩, trivial⟩
    ·
      intro L s14 hL
      obtain ⟨w11, rfl, b12, b13, i15, k16⟩ := hL
      intro v17 e18
      have g19 : s14.1 7 0 = v17 := by rw [e18]
      have b20 : (1 : Int) ≤ v17.toInt ∧ v17.toInt ≤ 16 := by rw [e18]; exact Iv_7_0 i15
      refine And.intro (fun c21 => ?_) (fun c21 => ?_)
      · have c21 : v17.toInt ≤ w11.toInt := c21
        intro v22 e23
        have g24 : s14.1 7 1 = v22 := by rw [e23]
        refine And.intro (fun c25 => ?_) (fun c25 => ?_)
        · have c25 : ¬ v22.toInt = (Int32.ofInt 1).toInt := c25
          intro v26 e27
          have w28 : v22 = v26 := by rw [e27, g24]
          subst w28
          refine And.intro (fun c29 => ?_) (fun c29 => ?_)
          · have c29 : ¬ v22.toInt = (Int32.ofInt 2).toInt := c29
            intro v30 e31
            have g32 : s14.1 7 3 = v30 := by rw [e31]
            refine And.intro (Nat.le_of_ble_eq_true rfl) (And.intro ⟨7, v30, rfl, by decide, i15⟩ ?_)
            intro v33 s35 h34
            have h34 : s35 = s14 ∧ (True) := h34
            have q38 := h34.1.symm
            subst q38
            intro v39 e40
            intro v41 e42
            intro v43 e44
            intro s45 e46
            have i47 : Iv s45 := Iv.u2 i15 e46
            have k48 : Kp s0 s45 := Kx.u2 k16 e46 (vg_kq_no ⟨rfl, rfl, rfl⟩).1
            intro v49 e50
            intro v51 e52
            have w53 : v17 = v51 := by rw [e52, e46, vg_u2_1, g19]
            subst w53
            intro v54 e55
            have b56 := vg_i2l e55
            intro v57 e58
            intro v59 e60
            intro v61 e62
            refine And.intro (Nat.le_of_ble_eq_true rfl) (And.intro ⟨7, rfl, by decide, i47⟩ ?_)
            intro v63 s65 h64
            have h64 : s65 = s45 ∧ (True) := h64
            have q68 := h64.1.symm
            subst q68
            intro v69 e70
            intro v71 e72
            intro v73 e74
            intro v75 e76
            intro s77 e78
            have i79 : Iv s77 := Iv.u2 i47 e78
            have k80 : Kp s0 s77 := Kx.u2 k48 e78 (vg_kq_no ⟨rfl, rfl, rfl⟩).1
            intro v81 e82
            intro v83 e84
            refine And.intro (Nat.le_of_ble_eq_true rfl) (And.intro ⟨v83, rfl, trivial⟩ ?_)
            intro v85 s87 h86
            have h86 : s87 = s77 ∧ (True) := h86
            have q90 := h86.1.symm
            subst q90
            refine And.intro (Nat.le_of_ble_eq_true rfl) (And.intro ⟨v81, v85, rfl, trivial⟩ ?_)
            intro v91 s93 h92
            have h92 : s93 = s77 ∧ (True) := h92
            have q96 := h92.1.symm
            subst q96
            intro s97 e98
            have i99 : Iv s97 := Iv.u2 i79 e98
            have k100 : Kp s0 s97 := Kx.u2 k80 e98 (vg_kq_no ⟨rfl, rfl, rfl⟩).1
            show Iv s97 ∧ Kp s0 s97 ∧ (True)
            exact ⟨i99, k100, (trivial)⟩
          · have c29 : ¬ (¬ v22.toInt = (Int32.ofInt 2).toInt) := c29
            refine And.intro (Nat.le_of_ble_eq_true rfl) (And.intro ⟨7, a1, rfl, by decide, i15⟩ ?_)
            intro s102 h101
            have h101 : Iv s102 ∧ Kp s14 s102 ∧ (True) := h101
            have i103 := h101.1
            have k104 : Kp s0 s102 := Kx.tr k16 (h101.2.1)
            intro v105 e106
            have g107 : s102.1 7 3 = v105 := by rw [e106]
            refine And.intro (Nat.le_of_ble_eq_true rfl) (And.intro ⟨7, v105, rfl, by decide, i103⟩ ?_)
            intro v108 s110 h109
            have h109 : s110 = s102 ∧ (True) := h109
            have q113 := h109.1.symm
            subst q113
            intro v114 e115
            intro v116 e117
            intro v118 e119
            intro s120 e121
            have i122 : Iv s120 := Iv.u2 i103 e121
            have k123 : Kp s0 s120 := Kx.u2 k104 e121 (vg_kq_no ⟨rfl, rfl, rfl⟩).1
            intro v124 e125
            intro v126 e127
            have g128 : s102.1 7 0 = v126 := by rw [e127, e121, vg_u2_1]
            have b129 : (1 : Int) ≤ v126.toInt ∧ v126.toInt ≤ 16 := by rw [e127]; exact Iv_7_0 i122
            intro v130 e131
            have b132 := vg_i2l e131
            intro v133 e134
            intro v135 e136
            intro v137 e138
            refine And.intro (Nat.le_of_ble_eq_true rfl) (And.intro ⟨7, rfl, by decide, i122⟩ ?_)
            intro v139 s141 h140
            have h140 : s141 = s120 ∧ (True) := h140
            have q144 := h140.1.symm
            subst q144
            intro v145 e146
            intro v147 e148
            intro v149 e150
            intro v151 e152
            intro s153 e154
            have i155 : Iv s153 := Iv.u2 i122 e154
            have k156 : Kp s0 s153 := Kx.u2 k123 e154 (vg_kq_no ⟨rfl, rfl, rfl⟩).1
            intro v157 e158
            intro v159 e160
            refine And.intro (Nat.le_of_ble_eq_true rfl) (And.intro ⟨v159, rfl, trivial⟩ ?_)
            intro v161 s163 h162
            have h162 : s163 = s153 ∧ (True) := h162
            have q166 := h162.1.symm
            subst q166
            refine And.intro (Nat.le_of_ble_eq_true rfl) (And.intro ⟨v157, v161, rfl, trivial⟩ ?_)
            intro v167 s169 h168
            have h168 : s169 = s153 ∧ (True) := h168
            have q172 := h168.1.symm
            subst q172
            intro s173 e174
            have i175 : Iv s173 := Iv.u2 i155 e174
            have k176 : Kp s0 s173 := Kx.u2 k156 e174 (vg_kq_no ⟨rfl, rfl, rfl⟩).1
            show Iv s173 ∧ Kp s0 s173 ∧ (True)
            exact ⟨i175, k176, (trivial)⟩
        · have c25 : ¬ (¬ v22.toInt = (Int32.ofInt 1).toInt) := c25
          intro v177 e178
          have g179 : s14.1 7 2 = v177 := by rw [e178]
          intro v180 e181
          intro v182 e183
          have w184 : v17 = v182 := by rw [e183, g19]
          subst w184
          refine And.intro (by omega) ?_
          intro v185 e186
          have b187 := vg_remx e186 (by omega)
          intro s188 e189
          have i190 : Iv s188 := Iv.u1 i15 e189 rfl
          have k191 : Kp s0 s188 := Kx.u1 k16 e189 rfl
          intro v192 e193
          have w194 : v22 = v192 := by rw [e193, e189, vg_u1_at (a := 7) (b := 1) (k := 7) (i := 2) (by decide), g24]
          subst w194
          refine And.intro (fun c195 => ?_) (fun c195 => ?_)
          · have c195 : ¬ v22.toInt = (Int32.ofInt 2).toInt := c195
            intro v196 e197
            have g198 : s14.1 7 3 = v196 := by rw [e197, e189, vg_u1_at (a := 7) (b := 3) (k := 7) (i := 2) (by decide)]
            refine And.intro (Nat.le_of_ble_eq_true rfl) (And.intro ⟨7, v196, rfl, by decide, i190⟩ ?_)
            intro v199 s201 h200
            have h200 : s201 = s188 ∧ (True) := h200
            have q204 := h200.1.symm
            subst q204
            intro v205 e206
            intro v207 e208
            intro v209 e210
            intro s211 e212
            have i213 : Iv s211 := Iv.u2 i190 e212
            have k214 : Kp s0 s211 := Kx.u2 k191 e212 (vg_kq_no ⟨rfl, rfl, rfl⟩).1
            intro v215 e216
            intro v217 e218
            have w219 : v17 = v217 := by rw [e218, e212, vg_u2_1, e189, vg_u1_at (a := 7) (b := 0) (k := 7) (i := 2) (by decide), g19]
            subst w219
            intro v220 e221
            have b222 := vg_i2l e221
            intro v223 e224
            intro v225 e226
            intro v227 e228
            refine And.intro (Nat.le_of_ble_eq_true rfl) (And.intro ⟨7, rfl, by decide, i213⟩ ?_)
            intro v229 s231 h230
            have h230 : s231 = s211 ∧ (True) := h230
            have q234 := h230.1.symm
            subst q234
            intro v235 e236
            intro v237 e238
            intro v239 e240
            intro v241 e242
            intro s243 e244
            have i245 : Iv s243 := Iv.u2 i213 e244
            have k246 : Kp s0 s243 := Kx.u2 k214 e244 (vg_kq_no ⟨rfl, rfl, rfl⟩).1
            intro v247 e248
            intro v249 e250
            refine And.intro (Nat.le_of_ble_eq_true rfl) (And.intro ⟨v249, rfl, trivial⟩ ?_)
            intro v251 s253 h252
            have h252 : s253 = s243 ∧ (True) := h252
            have q256 := h252.1.symm
            subst q256
            refine And.intro (Nat.le_of_ble_eq_true rfl) (And.intro ⟨v247, v251, rfl, trivial⟩ ?_)
            intro v257 s259 h258
            have h258 : s259 = s243 ∧ (True) := h258
            have q262 := h258.1.symm
            subst q262
            intro s263 e264
            have i265 : Iv s263 := Iv.u2 i245 e264
            have k266 : Kp s0 s263 := Kx.u2 k246 e264 (vg_kq_no ⟨rfl, rfl, rfl⟩).1
            show Iv s263 ∧ Kp s0 s263 ∧ (True)
            exact ⟨i265, k266, (trivial)⟩
          · have c195 : ¬ (¬ v22.toInt = (Int32.ofInt 2).toInt) := c195
            exfalso
            omega
      · have c21 : ¬ (v17.toInt ≤ w11.toInt) := c21
        refine And.intro ⟨by omega, by omega⟩ ?_
        intro v267 e268
        intro v269 e270
        have g271 : s14.1 7 3 = v269 := by rw [e270]
        intro v272 e273
        intro v274 e275
        have b276 := vg_and e275 (by omega)
        intro v277 e278
        refine And.intro ⟨by omega, by omega⟩ ?_
        intro s279 e280
        have i281 : Iv s279 := Iv.a1 i15 e280 rfl
        have k282 : Kp s0 s279 := Kx.u1 k16 e280 rfl
        intro v283 e284
        have b285 := vg_add e284 (by omega) (by omega)
        exact ⟨rfl, ⟨v283, rfl, (by omega), (by omega), i281, k282⟩, (by show (0 + (16 - v283.toInt) * 1000000000000).toNat < (0 + (16 - w11.toInt) * 1000000000000).toNat; omega)⟩
  ·
    have z0 : (Int32.ofInt 0).toInt = 0 := by decide
    have z1 : (Int32.ofInt 1).toInt = 1 := by decide
    have z2 : (Int32.ofInt 2).toInt = 2 := by decide
    refine ⟨Nat.le_of_ble_eq_true rfl, [(11, [true, true, true], (fun L t => ∃ (x2 : Int32), L = [some (.ref 26), some (.int a1), some (.int x2)] ∧ (0 : Int) ≤ x2.toInt ∧ x2.toInt ≤ (16 : Int) ∧ Iv t ∧ Kp s0 t), (fun L _ => (0 + (16 - (vg_li L 2).toInt) * 1000000000000).toNat))], ?_, List.forall_mem_cons.mpr ⟨?_, fun _ h => absurd h List.not_mem_nil⟩⟩
    ·
      refine And.intro (Nat.le_of_ble_eq_true rfl) (And.intro ⟨26, a1, rfl, by decide, i0⟩ ?_)
      intro v1 s3 h2
      have h2 : s3 = s0 ∧ (True) := h2
      have q6 := h2.1.symm
      subst q6
      intro s7 e8
      have i9 : Iv s7 := Iv.u1 i0 e8 rfl
      have k10 : Kp s0 s7 := Kx.u1 Kx.rf e8 rfl
      exact ⟨rfl, ⟨(Int32.ofInt 0), rfl, (by omega), (by omega), i9, k10⟩, trivial⟩
    ·
      intro L s14 hL
      obtain ⟨w11, rfl, b12, b13, i15, k16⟩ := hL
      intro v17 e18
      have g19 : s14.1 26 0 = v17 := by rw [e18]
      have b20 : (1 : Int) ≤ v17.toInt ∧ v17.toInt ≤ 16 := by rw [e18]; exact Iv_26_0 i15
      refine And.intro (fun c21 => ?_) (fun c21 => ?_)
      · have c21 : v17.toInt ≤ w11.toInt := c21
        intro v22 e23
        have g24 : s14.1 26 1 = v22 := by rw [e23]
        refine And.intro (fun c25 => ?_) (fun c25 => ?_)
        · have c25 : ¬ v22.toInt = (Int32.ofInt 1).toInt := c25
          intro v26 e27
          have w28 : v22 = v26 := by rw [e27, g24]
          subst w28
          refine And.intro (fun c29 => ?_) (fun c29 => ?_)
          · have c29 : ¬ v22.toInt = (Int32.ofInt 2).toInt := c29
            intro v30 e31
            have g32 : s14.1 26 3 = v30 := by rw [e31]
            refine And.intro (Nat.le_of_ble_eq_true rfl) (And.intro ⟨26, v30, rfl, by decide, i15⟩ ?_)
            intro v33 s35 h34
            have h34 : s35 = s14 ∧ (True) := h34
            have q38 := h34.1.symm
            subst q38
            intro v39 e40
            intro v41 e42
            intro v43 e44
            intro s45 e46
            have i47 : Iv s45 := Iv.u2 i15 e46
            have k48 : Kp s0 s45 := Kx.u2 k16 e46 (vg_kq_no ⟨rfl, rfl, rfl⟩).1
            intro v49 e50
            intro v51 e52
            have w53 : v17 = v51 := by rw [e52, e46, vg_u2_1, g19]
            subst w53
            intro v54 e55
            have b56 := vg_i2l e55
            intro v57 e58
            intro v59 e60
            intro v61 e62
            refine And.intro (Nat.le_of_ble_eq_true rfl) (And.intro ⟨26, rfl, by decide, i47⟩ ?_)
            intro v63 s65 h64
            have h64 : s65 = s45 ∧ (True) := h64
            have q68 := h64.1.symm
            subst q68
            intro v69 e70
            intro v71 e72
            intro v73 e74
            intro v75 e76
            intro s77 e78
            have i79 : Iv s77 := Iv.u2 i47 e78
            have k80 : Kp s0 s77 := Kx.u2 k48 e78 (vg_kq_no ⟨rfl, rfl, rfl⟩).1
            intro v81 e82
            intro v83 e84
            refine And.intro (Nat.le_of_ble_eq_true rfl) (And.intro ⟨v83, rfl, trivial⟩ ?_)
            intro v85 s87 h86
            have h86 : s87 = s77 ∧ (True) := h86
            have q90 := h86.1.symm
            subst q90
            refine And.intro (Nat.le_of_ble_eq_true rfl) (And.intro ⟨v81, v85, rfl, trivial⟩ ?_)
            intro v91 s93 h92
            have h92 : s93 = s77 ∧ (True) := h92
            have q96 := h92.1.symm
            subst q96
            intro s97 e98
            have i99 : Iv s97 := Iv.u2 i79 e98
            have k100 : Kp s0 s97 := Kx.u2 k80 e98 (vg_kq_no ⟨rfl, rfl, rfl⟩).1
            show Iv s97 ∧ Kp s0 s97 ∧ (True)
            exact ⟨i99, k100, (trivial)⟩
          · have c29 : ¬ (¬ v22.toInt = (Int32.ofInt 2).toInt) := c29
            refine And.intro (Nat.le_of_ble_eq_true rfl) (And.intro ⟨26, a1, rfl, by decide, i15⟩ ?_)
            intro s102 h101
            have h101 : Iv s102 ∧ Kp s14 s102 ∧ (True) := h101
            have i103 := h101.1
            have k104 : Kp s0 s102 := Kx.tr k16 (h101.2.1)
            intro v105 e106
            have g107 : s102.1 26 3 = v105 := by rw [e106]
            refine And.intro (Nat.le_of_ble_eq_true rfl) (And.intro ⟨26, v105, rfl, by decide, i103⟩ ?_)
            intro v108 s110 h109
            have h109 : s110 = s102 ∧ (True) := h109
            have q113 := h109.1.symm
            subst q113
            intro v114 e115
            intro v116 e117
            intro v118 e119
            intro s120 e121
            have i122 : Iv s120 := Iv.u2 i103 e121
            have k123 : Kp s0 s120 := Kx.u2 k104 e121 (vg_kq_no ⟨rfl, rfl, rfl⟩).1
            intro v124 e125
            intro v126 e127
            have g128 : s102.1 26 0 = v126 := by rw [e127, e121, vg_u2_1]
            have b129 : (1 : Int) ≤ v126.toInt ∧ v126.toInt ≤ 16 := by rw [e127]; exact Iv_26_0 i122
            intro v130 e131
            have b132 := vg_i2l e131
            intro v133 e134
            intro v135 e136
            intro v137 e138
            refine And.intro (Nat.le_of_ble_eq_true rfl) (And.intro ⟨26, rfl, by decide, i122⟩ ?_)
            intro v139 s141 h140
            have h140 : s141 = s120 ∧ (True) := h140
            have q144 := h140.1.symm
            subst q144
            intro v145 e146
            intro v147 e148
            intro v149 e150
            intro v151 e152
            intro s153 e154
            have i155 : Iv s153 := Iv.u2 i122 e154
            have k156 : Kp s0 s153 := Kx.u2 k123 e154 (vg_kq_no ⟨rfl, rfl, rfl⟩).1
            intro v157 e158
            intro v159 e160
            refine And.intro (Nat.le_of_ble_eq_true rfl) (And.intro ⟨v159, rfl, trivial⟩ ?_)
            intro v161 s163 h162
            have h162 : s163 = s153 ∧ (True) := h162
            have q166 := h162.1.symm
            subst q166
            refine And.intro (Nat.le_of_ble_eq_true rfl) (And.intro ⟨v157, v161, rfl, trivial⟩ ?_)
            intro v167 s169 h168
            have h168 : s169 = s153 ∧ (True) := h168
            have q172 := h168.1.symm
            subst q172
            intro s173 e174
            have i175 : Iv s173 := Iv.u2 i155 e174
            have k176 : Kp s0 s173 := Kx.u2 k156 e174 (vg_kq_no ⟨rfl, rfl, rfl⟩).1
            show Iv s173 ∧ Kp s0 s173 ∧ (True)
            exact ⟨i175, k176, (trivial)⟩
        · have c25 : ¬ (¬ v22.toInt = (Int32.ofInt 1).toInt) := c25
          intro v177 e178
          have g179 : s14.1 26 2 = v177 := by rw [e178]
          intro v180 e181
          intro v182 e183
          have w184 : v17 = v182 := by rw [e183, g19]
          subst w184
          refine And.intro (by omega) ?_
          intro v185 e186
          have b187 := vg_remx e186 (by omega)
          intro s188 e189
          have i190 : Iv s188 := Iv.u1 i15 e189 rfl
          have k191 : Kp s0 s188 := Kx.u1 k16 e189 rfl
          intro v192 e193
          have w194 : v22 = v192 := by rw [e193, e189, vg_u1_at (a := 26) (b := 1) (k := 26) (i := 2) (by decide), g24]
          subst w194
          refine And.intro (fun c195 => ?_) (fun c195 => ?_)
          · have c195 : ¬ v22.toInt = (Int32.ofInt 2).toInt := c195
            intro v196 e197
            have g198 : s14.1 26 3 = v196 := by rw [e197, e189, vg_u1_at (a := 26) (b := 3) (k := 26) (i := 2) (by decide)]
            refine And.intro (Nat.le_of_ble_eq_true rfl) (And.intro ⟨26, v196, rfl, by decide, i190⟩ ?_)
            intro v199 s201 h200
            have h200 : s201 = s188 ∧ (True) := h200
            have q204 := h200.1.symm
            subst q204
            intro v205 e206
            intro v207 e208
            intro v209 e210
            intro s211 e212
            have i213 : Iv s211 := Iv.u2 i190 e212
            have k214 : Kp s0 s211 := Kx.u2 k191 e212 (vg_kq_no ⟨rfl, rfl, rfl⟩).1
            intro v215 e216
            intro v217 e218
            have w219 : v17 = v217 := by rw [e218, e212, vg_u2_1, e189, vg_u1_at (a := 26) (b := 0) (k := 26) (i := 2) (by decide), g19]
            subst w219
            intro v220 e221
            have b222 := vg_i2l e221
            intro v223 e224
            intro v225 e226
            intro v227 e228
            refine And.intro (Nat.le_of_ble_eq_true rfl) (And.intro ⟨26, rfl, by decide, i213⟩ ?_)
            intro v229 s231 h230
            have h230 : s231 = s211 ∧ (True) := h230
            have q234 := h230.1.symm
            subst q234
            intro v235 e236
            intro v237 e238
            intro v239 e240
            intro v241 e242
            intro s243 e244
            have i245 : Iv s243 := Iv.u2 i213 e244
            have k246 : Kp s0 s243 := Kx.u2 k214 e244 (vg_kq_no ⟨rfl, rfl, rfl⟩).1
            intro v247 e248
            intro v249 e250
            refine And.intro (Nat.le_of_ble_eq_true rfl) (And.intro ⟨v249, rfl, trivial⟩ ?_)
            intro v251 s253 h252
            have h252 : s253 = s243 ∧ (True) := h252
            have q256 := h252.1.symm
            subst q256
            refine And.intro (Nat.le_of_ble_eq_true rfl) (And.intro ⟨v247, v251, rfl, trivial⟩ ?_)
            intro v257 s259 h258
            have h258 : s259 = s243 ∧ (True) := h258
            have q262 := h258.1.symm
            subst q262
            intro s263 e264
            have i265 : Iv s263 := Iv.u2 i245 e264
            have k266 : Kp s0 s263 := Kx.u2 k246 e264 (vg_kq_no ⟨rfl, rfl, rfl⟩).1
            show Iv s263 ∧ Kp s0 s263 ∧ (True)
            exact ⟨i265, k266, (trivial)⟩
          · have c195 : ¬ (¬ v22.toInt = (Int32.ofInt 2).toInt) := c195
            exfalso
            omega
      · have c21 : ¬ (v17.toInt ≤ w11.toInt) := c21
        refine And.intro ⟨by omega, by omega⟩ ?_
        intro v267 e268
        intro v269 e270
        have g271 : s14.1 26 3 = v269 := by rw [e270]
        intro v272 e273
        intro v274 e275
        have b276 := vg_and e275 (by omega)
        intro v277 e278
        refine And.intro ⟨by omega, by omega⟩ ?_
        intro s279 e280
        have i281 : Iv s279 := Iv.a1 i15 e280 rfl
        have k282 : Kp s0 s279 := Kx.u1 k16 e280 rfl
        intro v283 e284
        have b285 := vg_add e284 (by omega) (by omega)
        exact ⟨rfl, ⟨v283, rfl, (by omega), (by omega), i281, k282⟩, (by show (0 + (16 - v283.toInt) * 1000000000000).toNat < (0 + (16 - w11.toInt) * 1000000000000).toNat; omega)⟩
end
section
def o_X3_begin : List vg_I := [(0, .aload_n 0, 1, 0, 0, 0, 0), (1, .getfield 9, 3, 395, 3, 1, 0), (4, .iconst 0, 1, 0, 0, 0, 0), (5, .invokestatic 13, 3, 0, 1, 2, 519), (8, .aload_n 0, 1, 0, 0, 0, 0), (9, .iconst 0, 1, 0, 0, 0, 0), (10, .putfield 19, 3, 396, 3, 2, 0), (13, .aload_n 0, 1, 0, 0, 0, 0), (14, .iconst 0, 1, 0, 0, 0, 0), (15, .putfield 23, 3, 397, 3, 3, 1), (18, .return_, 1, 0, 0, 0, 0)]
set_option maxRecDepth 100000 in
set_option maxHeartbeats 4000000 in
theorem c_X3_begin (l : Launch) (G : vg_G) (hp : vg_Hp G) : vg_Ct l G vg_sh r_X3_begin := by
  refine vg_meth hp vg_sh_ok r_X3_begin k_X3_begin rfl (fun h => by cases h) o_X3_begin [r_J7_fill_53178] false (by decide +kernel) (by decide +kernel) ⟨_, _, rfl, rfl⟩ (List.forall_mem_cons.mpr ⟨⟨c_J7_fill_53178 l G hp, Nat.le_of_ble_eq_true rfl, Nat.le_of_ble_eq_true rfl⟩, fun _ h => absurd h List.not_mem_nil⟩) (fun h => by cases h) 600 ?_
  intro as s0 hpre
  obtain ⟨r, rfl, hr, i0⟩ := hpre
  simp only [List.mem_cons, List.not_mem_nil, or_false] at hr
  rcases hr with rfl | rfl | rfl
  ·
    have z0 : (Int32.ofInt 0).toInt = 0 := by decide
    refine ⟨Nat.le_of_ble_eq_true rfl, [], ?_, fun _ h => absurd h List.not_mem_nil⟩
    ·
      refine And.intro (Nat.le_of_ble_eq_true rfl) (And.intro ⟨36, (Int32.ofInt 0), rfl, by decide, i0⟩ ?_)
      intro s2 h1
      have h1 : Iv s2 ∧ Kp s0 s2 ∧ (True) := h1
      have i3 := h1.1
      have k4 : Kp s0 s2 := Kx.tr Kx.rf (h1.2.1)
      intro s5 e6
      have i7 : Iv s5 := Iv.u1 i3 e6 rfl
      have k8 : Kp s0 s5 := Kx.u1 k4 e6 rfl
      refine And.intro (by first | exact Or.inl rfl | exact Or.inr rfl | exact vg_01 (by omega) (by omega)) ?_
      intro s9 e10
      have i11 : Iv s9 := Iv.u1 i7 e10 rfl
      have k12 : Kp s0 s9 := Kx.u1 k8 e10 rfl
      show Iv s9 ∧ Kp s0 s9 ∧ (True)
      exact ⟨i11, k12, (trivial)⟩
  ·
    have z0 : (Int32.ofInt 0).toInt = 0 := by decide
    refine ⟨Nat.le_of_ble_eq_true rfl, [], ?_, fun _ h => absurd h List.not_mem_nil⟩
    ·
      refine And.intro (Nat.le_of_ble_eq_true rfl) (And.intro ⟨38, (Int32.ofInt 0), rfl, by decide, i0⟩ ?_)
      intro s2 h1
      have h1 : Iv s2 ∧ Kp s0 s2 ∧ (True) := h1
      have i3 := h1.1
      have k4 : Kp s0 s2 := Kx.tr Kx.rf (h1.2.1)
      intro s5 e6
      have i7 : Iv s5 := Iv.u1 i3 e6 rfl
      have k8 : Kp s0 s5 := Kx.u1 k4 e6 rfl
      refine And.intro (by first | exact Or.inl rfl | exact Or.inr rfl | exact vg_01 (by omega) (by omega)) ?_
      intro s9 e10
      have i11 : Iv s9 := Iv.u1 i7 e10 rfl
      have k12 : Kp s0 s9 := Kx.u1 k8 e10 rfl
      show Iv s9 ∧ Kp s0 s9 ∧ (True)
      exact ⟨i11, k12, (trivial)⟩
  ·
    have z0 : (Int32.ofInt 0).toInt = 0 := by decide
    refine ⟨Nat.le_of_ble_eq_true rfl, [], ?_, fun _ h => absurd h List.not_mem_nil⟩
    ·
      refine And.intro (Nat.le_of_ble_eq_true rfl) (And.intro ⟨40, (Int32.ofInt 0), rfl, by decide, i0⟩ ?_)
      intro s2 h1
      have h1 : Iv s2 ∧ Kp s0 s2 ∧ (True) := h1
      have i3 := h1.1
      have k4 : Kp s0 s2 := Kx.tr Kx.rf (h1.2.1)
      intro s5 e6
      have i7 : Iv s5 := Iv.u1 i3 e6 rfl
      have k8 : Kp s0 s5 := Kx.u1 k4 e6 rfl
      refine And.intro (by first | exact Or.inl rfl | exact Or.inr rfl | exact vg_01 (by omega) (by omega)) ?_
      intro s9 e10
      have i11 : Iv s9 := Iv.u1 i7 e10 rfl
      have k12 : Kp s0 s9 := Kx.u1 k8 e10 rfl
      show Iv s9 ∧ Kp s0 s9 ∧ (True)
      exact ⟨i11, k12, (trivial)⟩
def o_X3_take : List vg_I := [(0, .aload_n 0, 1, 0, 0, 0, 0), (1, .aload_n 0, 1, 0, 0, 0, 0), (2, .getfield 19, 3, 396, 3, 2, 0), (5, .iconst 1, 1, 0, 0, 0, 0), (6, .iadd, 1, 0, 0, 0, 0), (7, .bipush 15, 2, 0, 0, 0, 0), (9, .iand, 1, 0, 0, 0, 0), (10, .putfield 19, 3, 396, 3, 2, 0), (13, .aload_n 0, 1, 0, 0, 0, 0), (14, .getfield 9, 3, 395, 3, 1, 0), (17, .aload_n 0, 1, 0, 0, 0, 0), (18, .getfield 19, 3, 396, 3, 2, 0), (21, .iload_n 1, 1, 0, 0, 0, 0), (22, .iastore, 1, 0, 0, 0, 0), (23, .aload_n 0, 1, 0, 0, 0, 0), (24, .aload_n 0, 1, 0, 0, 0, 0), (25, .getfield 23, 3, 397, 3, 3, 0), (28, .ifCond .ne 7, 3, 0, 0, 0, 0), (31, .iconst 1, 1, 0, 0, 0, 0), (32, .goto 4, 3, 0, 0, 0, 0), (35, .iconst 0, 1, 0, 0, 0, 0), (36, .putfield 23, 3, 397, 3, 3, 1), (39, .aload_n 0, 1, 0, 0, 0, 0), (40, .getfield 23, 3, 397, 3, 3, 0), (43, .ifCond .ne 7, 3, 0, 0, 0, 0), (46, .iconst 1, 1, 0, 0, 0, 0), (47, .goto 4, 3, 0, 0, 0, 0), (50, .iconst 0, 1, 0, 0, 0, 0), (51, .ireturn, 1, 0, 0, 0, 1)]
set_option maxRecDepth 100000 in
set_option maxHeartbeats 4000000 in
theorem c_X3_take (l : Launch) (G : vg_G) (hp : vg_Hp G) : vg_Ct l G vg_sh r_X3_take := by
  refine vg_meth hp vg_sh_ok r_X3_take k_X3_take rfl (fun h => by cases h) o_X3_take [] false (by decide +kernel) (by decide +kernel) ⟨_, _, rfl, rfl⟩ (fun _ h => absurd h List.not_mem_nil) (fun h => by cases h) 600 ?_
  intro as s0 hpre
  obtain ⟨r, a1, rfl, hr, i0⟩ := hpre
  simp only [List.mem_cons, List.not_mem_nil, or_false] at hr
  rcases hr with rfl | rfl | rfl
  ·
    have z0 : (Int32.ofInt 0).toInt = 0 := by decide
    have z1 : (Int32.ofInt 1).toInt = 1 := by decide
    have z15 : (Int32.ofInt 15).toInt = 15 := by decide
    refine ⟨Nat.le_of_ble_eq_true rfl, [], ?_, fun _ h => absurd h List.not_mem_nil⟩
    ·
      intro v1 e2
      have g3 : s0.1 35 2 = v1 := by rw [e2]
      intro v4 e5
      intro v6 e7
      have b8 := vg_and e7 (by omega)
      intro s9 e10
      have i11 : Iv s9 := Iv.u1 i0 e10 rfl
      have k12 : Kp s0 s9 := Kx.u1 Kx.rf e10 rfl
      intro v13 e14
      have w15 : v6 = v13 := by rw [e14, e10]; exact vg_u1_self.symm
      subst w15
      refine And.intro ⟨by omega, by omega⟩ ?_
      intro s16 e17
      have i18 : Iv s16 := Iv.a1 i11 e17 rfl
      have k19 : Kp s0 s16 := Kx.u1 k12 e17 rfl
      intro v20 e21
      have g22 : s0.1 35 3 = v20 := by rw [e21, e17, vg_u1_ne (a := 35) (k := 36) (by decide), e10, vg_u1_at (a := 35) (b := 3) (k := 35) (i := 2) (by decide)]
      refine And.intro (fun c23 => ?_) (fun c23 => ?_)
      · have c23 : ¬ v20.toInt = 0 := c23
        refine And.intro (by first | exact Or.inl rfl | exact Or.inr rfl | exact vg_01 (by omega) (by omega)) ?_
        intro s24 e25
        have i26 : Iv s24 := Iv.u1 i18 e25 rfl
        have k27 : Kp s0 s24 := Kx.u1 k19 e25 rfl
        intro v28 e29
        have w30 : (Int32.ofInt 0) = v28 := by rw [e29, e25]; exact vg_u1_self.symm
        subst w30
        refine And.intro (fun c31 => ?_) (fun c31 => ?_)
        · have c31 : ¬ (Int32.ofInt 0).toInt = 0 := c31
          exfalso
          omega
        · have c31 : ¬ (¬ (Int32.ofInt 0).toInt = 0) := c31
          refine And.intro (by first | exact Or.inl rfl | exact Or.inr rfl | exact vg_01 (by omega) (by omega)) ?_
          show Iv s24 ∧ Kp s0 s24 ∧ (0 ≤ (Int32.ofInt 1).toInt ∧ (Int32.ofInt 1).toInt ≤ 1)
          exact ⟨i26, k27, (by first | trivial | omega | assumption)⟩
      · have c23 : ¬ (¬ v20.toInt = 0) := c23
        refine And.intro (by first | exact Or.inl rfl | exact Or.inr rfl | exact vg_01 (by omega) (by omega)) ?_
        intro s32 e33
        have i34 : Iv s32 := Iv.u1 i18 e33 rfl
        have k35 : Kp s0 s32 := Kx.u1 k19 e33 rfl
        intro v36 e37
        have w38 : (Int32.ofInt 1) = v36 := by rw [e37, e33]; exact vg_u1_self.symm
        subst w38
        refine And.intro (fun c39 => ?_) (fun c39 => ?_)
        · have c39 : ¬ (Int32.ofInt 1).toInt = 0 := c39
          refine And.intro (by first | exact Or.inl rfl | exact Or.inr rfl | exact vg_01 (by omega) (by omega)) ?_
          show Iv s32 ∧ Kp s0 s32 ∧ (0 ≤ (Int32.ofInt 0).toInt ∧ (Int32.ofInt 0).toInt ≤ 1)
          exact ⟨i34, k35, (by first | trivial | omega | assumption)⟩
        · have c39 : ¬ (¬ (Int32.ofInt 1).toInt = 0) := c39
          exfalso
          omega
  ·
    have z0 : (Int32.ofInt 0).toInt = 0 := by decide
    have z1 : (Int32.ofInt 1).toInt = 1 := by decide
    have z15 : (Int32.ofInt 15).toInt = 15 := by decide
    refine ⟨Nat.le_of_ble_eq_true rfl, [], ?_, fun _ h => absurd h List.not_mem_nil⟩
    ·
      intro v1 e2
      have g3 : s0.1 37 2 = v1 := by rw [e2]
      intro v4 e5
      intro v6 e7
      have b8 := vg_and e7 (by omega)
      intro s9 e10
      have i11 : Iv s9 := Iv.u1 i0 e10 rfl
      have k12 : Kp s0 s9 := Kx.u1 Kx.rf e10 rfl
      intro v13 e14
      have w15 : v6 = v13 := by rw [e14, e10]; exact vg_u1_self.symm
      subst w15
      refine And.intro ⟨by omega, by omega⟩ ?_
      intro s16 e17
      have i18 : Iv s16 := Iv.a1 i11 e17 rfl
      have k19 : Kp s0 s16 := Kx.u1 k12 e17 rfl
      intro v20 e21
      have g22 : s0.1 37 3 = v20 := by rw [e21, e17, vg_u1_ne (a := 37) (k := 38) (by decide), e10, vg_u1_at (a := 37) (b := 3) (k := 37) (i := 2) (by decide)]
      refine And.intro (fun c23 => ?_) (fun c23 => ?_)
      · have c23 : ¬ v20.toInt = 0 := c23
        refine And.intro (by first | exact Or.inl rfl | exact Or.inr rfl | exact vg_01 (by omega) (by omega)) ?_
        intro s24 e25
        have i26 : Iv s24 := Iv.u1 i18 e25 rfl
        have k27 : Kp s0 s24 := Kx.u1 k19 e25 rfl
        intro v28 e29
        have w30 : (Int32.ofInt 0) = v28 := by rw [e29, e25]; exact vg_u1_self.symm
        subst w30
        refine And.intro (fun c31 => ?_) (fun c31 => ?_)
        · have c31 : ¬ (Int32.ofInt 0).toInt = 0 := c31
          exfalso
          omega
        · have c31 : ¬ (¬ (Int32.ofInt 0).toInt = 0) := c31
          refine And.intro (by first | exact Or.inl rfl | exact Or.inr rfl | exact vg_01 (by omega) (by omega)) ?_
          show Iv s24 ∧ Kp s0 s24 ∧ (0 ≤ (Int32.ofInt 1).toInt ∧ (Int32.ofInt 1).toInt ≤ 1)
          exact ⟨i26, k27, (by first | trivial | omega | assumption)⟩
      · have c23 : ¬ (¬ v20.toInt = 0) := c23
        refine And.intro (by first | exact Or.inl rfl | exact Or.inr rfl | exact vg_01 (by omega) (by omega)) ?_
        intro s32 e33
        have i34 : Iv s32 := Iv.u1 i18 e33 rfl
        have k35 : Kp s0 s32 := Kx.u1 k19 e33 rfl
        intro v36 e37
        have w38 : (Int32.ofInt 1) = v36 := by rw [e37, e33]; exact vg_u1_self.symm
        subst w38
        refine And.intro (fun c39 => ?_) (fun c39 => ?_)
        · have c39 : ¬ (Int32.ofInt 1).toInt = 0 := c39
          refine And.intro (by first | exact Or.inl rfl | exact Or.inr rfl | exact vg_01 (by omega) (by omega)) ?_
          show Iv s32 ∧ Kp s0 s32 ∧ (0 ≤ (Int32.ofInt 0).toInt ∧ (Int32.ofInt 0).toInt ≤ 1)
          exact ⟨i34, k35, (by first | trivial | omega | assumption)⟩
        · have c39 : ¬ (¬ (Int32.ofInt 1).toInt = 0) := c39
          exfalso
          omega
  ·
    have z0 : (Int32.ofInt 0).toInt = 0 := by decide
    have z1 : (Int32.ofInt 1).toInt = 1 := by decide
    have z15 : (Int32.ofInt 15).toInt = 15 := by decide
    refine ⟨Nat.le_of_ble_eq_true rfl, [], ?_, fun _ h => absurd h List.not_mem_nil⟩
    ·
      intro v1 e2
      have g3 : s0.1 39 2 = v1 := by rw [e2]
      intro v4 e5
      intro v6 e7
      have b8 := vg_and e7 (by omega)
      intro s9 e10
      have i11 : Iv s9 := Iv.u1 i0 e10 rfl
      have k12 : Kp s0 s9 := Kx.u1 Kx.rf e10 rfl
      intro v13 e14
      have w15 : v6 = v13 := by rw [e14, e10]; exact vg_u1_self.symm
      subst w15
      refine And.intro ⟨by omega, by omega⟩ ?_
      intro s16 e17
      have i18 : Iv s16 := Iv.a1 i11 e17 rfl
      have k19 : Kp s0 s16 := Kx.u1 k12 e17 rfl
      intro v20 e21
      have g22 : s0.1 39 3 = v20 := by rw [e21, e17, vg_u1_ne (a := 39) (k := 40) (by decide), e10, vg_u1_at (a := 39) (b := 3) (k := 39) (i := 2) (by decide)]
      refine And.intro (fun c23 => ?_) (fun c23 => ?_)
      · have c23 : ¬ v20.toInt = 0 := c23
        refine And.intro (by first | exact Or.inl rfl | exact Or.inr rfl | exact vg_01 (by omega) (by omega)) ?_
        intro s24 e25
        have i26 : Iv s24 := Iv.u1 i18 e25 rfl
        have k27 : Kp s0 s24 := Kx.u1 k19 e25 rfl
        intro v28 e29
        have w30 : (Int32.ofInt 0) = v28 := by rw [e29, e25]; exact vg_u1_self.symm
        subst w30
        refine And.intro (fun c31 => ?_) (fun c31 => ?_)
        · have c31 : ¬ (Int32.ofInt 0).toInt = 0 := c31
          exfalso
          omega
        · have c31 : ¬ (¬ (Int32.ofInt 0).toInt = 0) := c31
          refine And.intro (by first | exact Or.inl rfl | exact Or.inr rfl | exact vg_01 (by omega) (by omega)) ?_
          show Iv s24 ∧ Kp s0 s24 ∧ (0 ≤ (Int32.ofInt 1).toInt ∧ (Int32.ofInt 1).toInt ≤ 1)
          exact ⟨i26, k27, (by first | trivial | omega | assumption)⟩
      · have c23 : ¬ (¬ v20.toInt = 0) := c23
        refine And.intro (by first | exact Or.inl rfl | exact Or.inr rfl | exact vg_01 (by omega) (by omega)) ?_
        intro s32 e33
        have i34 : Iv s32 := Iv.u1 i18 e33 rfl
        have k35 : Kp s0 s32 := Kx.u1 k19 e33 rfl
        intro v36 e37
        have w38 : (Int32.ofInt 1) = v36 := by rw [e37, e33]; exact vg_u1_self.symm
        subst w38
        refine And.intro (fun c39 => ?_) (fun c39 => ?_)
        · have c39 : ¬ (Int32.ofInt 1).toInt = 0 := c39
          refine And.intro (by first | exact Or.inl rfl | exact Or.inr rfl | exact vg_01 (by omega) (by omega)) ?_
          show Iv s32 ∧ Kp s0 s32 ∧ (0 ≤ (Int32.ofInt 0).toInt ∧ (Int32.ofInt 0).toInt ≤ 1)
          exact ⟨i34, k35, (by first | trivial | omega | assumption)⟩
        · have c39 : ¬ (¬ (Int32.ofInt 1).toInt = 0) := c39
          exfalso
          omega
def o_X8_rowOf : List vg_I := [(0, .iload_n 1, 1, 0, 0, 0, 0), (1, .tableswitch 39 0 2 #[27, 31, 35], 27, 0, 0, 0, 0), (28, .getstatic 23, 3, 100, 0, 0, 591), (31, .areturn, 1, 0, 0, 0, 0), (32, .getstatic 26, 3, 101, 1, 0, 593), (35, .areturn, 1, 0, 0, 0, 0), (36, .getstatic 29, 3, 102, 2, 0, 595), (39, .areturn, 1, 0, 0, 0, 0), (40, .aload_n 0, 1, 0, 0, 0, 0), (41, .getfield 7, 3, 334, 8, 0, 0), (44, .areturn, 1, 0, 0, 0, 0)]
set_option maxRecDepth 100000 in
set_option maxHeartbeats 4000000 in
theorem c_X8_rowOf (l : Launch) (G : vg_G) (hp : vg_Hp G) : vg_Ct l G vg_sh r_X8_rowOf := by
  refine vg_meth hp vg_sh_ok r_X8_rowOf k_X8_rowOf rfl (fun _ as σ k σ' h => by
    unfold r_X8_rowOf at h ⊢
    dsimp only at h ⊢
    split at h
    · rename_i e
      cases e
      exact h.2
    · exact h.elim) o_X8_rowOf [] false (by decide +kernel) (by decide +kernel) ⟨_, _, rfl, rfl⟩ (fun _ h => absurd h List.not_mem_nil) (fun h => by cases h) 600 ?_
  intro as s0 hpre
  obtain ⟨r, a1, rfl, hr, i0⟩ := hpre
  simp only [List.mem_cons, List.not_mem_nil, or_false] at hr
  rcases hr with rfl
  ·
    refine ⟨Nat.le_of_ble_eq_true rfl, [], ?_, fun _ h => absurd h List.not_mem_nil⟩
    ·
      refine And.intro (fun c1 => ?_) ?_
      · have c1 : a1.toInt < (0) ∨ (2) < a1.toInt := c1
        show s0 = s0 ∧ (17 ∈ ([100, 101, 102, 17] : List Nat))
        exact ⟨rfl, (by decide)⟩
      refine And.intro (fun c2 => ?_) ?_
      · have c2 : a1.toInt = (0) := c2
        show s0 = s0 ∧ (100 ∈ ([100, 101, 102, 17] : List Nat))
        exact ⟨rfl, (by decide)⟩
      refine And.intro (fun c3 => ?_) ?_
      · have c3 : a1.toInt = (1) := c3
        show s0 = s0 ∧ (101 ∈ ([100, 101, 102, 17] : List Nat))
        exact ⟨rfl, (by decide)⟩
      refine And.intro (fun c4 => ?_) ?_
      · have c4 : a1.toInt = (2) := c4
        show s0 = s0 ∧ (102 ∈ ([100, 101, 102, 17] : List Nat))
        exact ⟨rfl, (by decide)⟩
      exact trivial
def o_X8_shiftOf : List vg_I := [(0, .iload_n 1, 1, 0, 0, 0, 0), (1, .tableswitch 34 0 2 #[27, 29, 31], 27, 0, 0, 0, 0), (28, .iconst 2, 1, 0, 0, 0, 0), (29, .ireturn, 1, 0, 0, 0, 0), (30, .iconst 5, 1, 0, 0, 0, 0), (31, .ireturn, 1, 0, 0, 0, 0), (32, .bipush 9, 2, 0, 0, 0, 0), (34, .ireturn, 1, 0, 0, 0, 0), (35, .aload_n 0, 1, 0, 0, 0, 0), (36, .getfield 19, 3, 335, 8, 1, 0), (39, .ireturn, 1, 0, 0, 0, 0)]
set_option maxRecDepth 100000 in
set_option maxHeartbeats 4000000 in
theorem c_X8_shiftOf (l : Launch) (G : vg_G) (hp : vg_Hp G) : vg_Ct l G vg_sh r_X8_shiftOf := by
  refine vg_meth hp vg_sh_ok r_X8_shiftOf k_X8_shiftOf rfl (fun h => by cases h) o_X8_shiftOf [] false (by decide +kernel) (by decide +kernel) ⟨_, _, rfl, rfl⟩ (fun _ h => absurd h List.not_mem_nil) (fun h => by cases h) 600 ?_
  intro as s0 hpre
  obtain ⟨r, a1, rfl, hr, i0⟩ := hpre
  simp only [List.mem_cons, List.not_mem_nil, or_false] at hr
  rcases hr with rfl
  ·
    have z2 : (Int32.ofInt 2).toInt = 2 := by decide
    have z5 : (Int32.ofInt 5).toInt = 5 := by decide
    have z9 : (Int32.ofInt 9).toInt = 9 := by decide
    refine ⟨Nat.le_of_ble_eq_true rfl, [], ?_, fun _ h => absurd h List.not_mem_nil⟩
    ·
      refine And.intro (fun c1 => ?_) ?_
      · have c1 : a1.toInt < (0) ∨ (2) < a1.toInt := c1
        intro v2 e3
        have g4 : s0.1 16 1 = v2 := by rw [e3]
        show s0 = s0 ∧ (True)
        exact ⟨rfl, (trivial)⟩
      refine And.intro (fun c5 => ?_) ?_
      · have c5 : a1.toInt = (0) := c5
        show s0 = s0 ∧ (True)
        exact ⟨rfl, (trivial)⟩
      refine And.intro (fun c6 => ?_) ?_
      · have c6 : a1.toInt = (1) := c6
        show s0 = s0 ∧ (True)
        exact ⟨rfl, (trivial)⟩
      refine And.intro (fun c7 => ?_) ?_
      · have c7 : a1.toInt = (2) := c7
        show s0 = s0 ∧ (True)
        exact ⟨rfl, (trivial)⟩
      exact trivial
def o_X3_number : List vg_I := [(0, .aload_n 1, 1, 0, 0, 0, 0), (1, .aload_n 0, 1, 0, 0, 0, 0), (2, .getfield 27, 3, 393, 3, 0, 0), (5, .invokevirtual 30, 3, 0, 8, 1, 775), (8, .astore_n 2, 1, 0, 0, 0, 0), (9, .lconst 0, 1, 0, 0, 0, 0), (10, .lstore_n 3, 1, 0, 0, 0, 0), (11, .iconst 0, 1, 0, 0, 0, 0), (12, .istore 5, 2, 0, 0, 0, 0), (14, .iload 5, 2, 0, 0, 0, 0), (16, .aload_n 2, 1, 0, 0, 0, 0), (17, .arraylength, 1, 0, 0, 0, 0), (18, .if_icmp .ge 34, 3, 0, 0, 0, 0), (21, .lload_n 3, 1, 0, 0, 0, 0), (22, .aload_n 2, 1, 0, 0, 0, 0), (23, .iload 5, 2, 0, 0, 0, 0), (25, .iaload, 1, 0, 0, 0, 0), (26, .i2l, 1, 0, 0, 0, 0), (27, .aload_n 0, 1, 0, 0, 0, 0), (28, .getfield 9, 3, 395, 3, 1, 0), (31, .aload_n 0, 1, 0, 0, 0, 0), (32, .getfield 19, 3, 396, 3, 2, 0), (35, .iload 5, 2, 0, 0, 0, 0), (37, .isub, 1, 0, 0, 0, 0), (38, .bipush 15, 2, 0, 0, 0, 0), (40, .iand, 1, 0, 0, 0, 0), (41, .iaload, 1, 0, 0, 0, 0), (42, .i2l, 1, 0, 0, 0, 0), (43, .lmul, 1, 0, 0, 0, 0), (44, .ladd, 1, 0, 0, 0, 0), (45, .lstore_n 3, 1, 0, 0, 0, 0), (46, .iinc 5 1, 3, 0, 0, 0, 0), (49, .goto (-35), 3, 0, 0, 0, 0), (52, .lload_n 3, 1, 0, 0, 0, 0), (53, .aload_n 1, 1, 0, 0, 0, 0), (54, .aload_n 0, 1, 0, 0, 0, 0), (55, .getfield 27, 3, 393, 3, 0, 0), (58, .invokevirtual 36, 3, 1, 8, 1, 776), (61, .lshr, 1, 0, 0, 0, 0), (62, .l2i, 1, 0, 0, 0, 0), (63, .ireturn, 1, 0, 0, 0, 0)]
set_option maxRecDepth 100000 in
set_option maxHeartbeats 4000000 in
theorem c_X3_number (l : Launch) (G : vg_G) (hp : vg_Hp G) : vg_Ct l G vg_sh r_X3_number := by
  refine vg_meth hp vg_sh_ok r_X3_number k_X3_number rfl (fun h => by cases h) o_X3_number [r_X8_rowOf, r_X8_shiftOf] false (by decide +kernel) (by decide +kernel) ⟨_, _, rfl, rfl⟩ (List.forall_mem_cons.mpr ⟨⟨c_X8_rowOf l G hp, Nat.le_of_ble_eq_true rfl, Nat.le_of_ble_eq_true rfl⟩, List.forall_mem_cons.mpr ⟨⟨c_X8_shiftOf l G hp, Nat.le_of_ble_eq_true rfl, Nat.le_of_ble_eq_true rfl⟩, fun _ h => absurd h List.not_mem_nil⟩⟩) (fun h => by cases h) 600 ?_
  intro as s0 hpre
  obtain ⟨r, a1, rfl, hr, ha1, i0⟩ := hpre
  simp only [List.mem_cons, List.not_mem_nil, or_false] at hr
  rcases hr with rfl | rfl | rfl
  ·
    simp only [List.mem_cons, List.not_mem_nil, or_false] at ha1
    rcases ha1 with rfl
    ·
      have z0 : (Int32.ofInt 0).toInt = 0 := by decide
      have z1 : (Int32.ofInt 1).toInt = 1 := by decide
      have z15 : (Int32.ofInt 15).toInt = 15 := by decide
      have n3 : (Int32.ofNat 3).toInt = 3 := by decide
      have n7 : (Int32.ofNat 7).toInt = 7 := by decide
      have n11 : (Int32.ofNat 11).toInt = 11 := by decide
      refine ⟨Nat.le_of_ble_eq_true rfl, [(14, [true, true, true, true, false, true], (fun L t => ∃ (x2 : Nat) (x3 : Int64) (x5 : Int32), L = [some (.ref 35), some (.ref 16), some (.ref x2), some (.long x3), none, some (.int x5)] ∧ x2 ∈ ([100, 101, 102, 17] : List Nat) ∧ (0 : Int) ≤ x5.toInt ∧ x5.toInt ≤ (11 : Int) ∧ t = s0), (fun L _ => (11 - (vg_li L 5).toInt).toNat))], ?_, List.forall_mem_cons.mpr ⟨?_, fun _ h => absurd h List.not_mem_nil⟩⟩
      ·
        intro v1 e2
        have g3 : s0.1 35 0 = v1 := by rw [e2]
        refine And.intro (Nat.le_of_ble_eq_true rfl) (And.intro ⟨16, v1, rfl, by decide, i0⟩ ?_)
        refine And.intro ?_ ?_
        ·
          intro s5 h4
          have h4 : s5 = s0 ∧ (100 ∈ ([100, 101, 102, 17] : List Nat)) := h4
          have q8 := h4.1.symm
          subst q8
          have q9 := h4.2
          exact ⟨rfl, ⟨100, (Int64.ofNat 0), (Int32.ofInt 0), rfl, (by decide), (by omega), (by omega), rfl⟩, trivial⟩
        refine And.intro ?_ ?_
        ·
          intro s11 h10
          have h10 : s11 = s0 ∧ (101 ∈ ([100, 101, 102, 17] : List Nat)) := h10
          have q14 := h10.1.symm
          subst q14
          have q15 := h10.2
          exact ⟨rfl, ⟨101, (Int64.ofNat 0), (Int32.ofInt 0), rfl, (by decide), (by omega), (by omega), rfl⟩, trivial⟩
        refine And.intro ?_ ?_
        ·
          intro s17 h16
          have h16 : s17 = s0 ∧ (102 ∈ ([100, 101, 102, 17] : List Nat)) := h16
          have q20 := h16.1.symm
          subst q20
          have q21 := h16.2
          exact ⟨rfl, ⟨102, (Int64.ofNat 0), (Int32.ofInt 0), rfl, (by decide), (by omega), (by omega), rfl⟩, trivial⟩
        refine And.intro ?_ ?_
        ·
          intro s23 h22
          have h22 : s23 = s0 ∧ (17 ∈ ([100, 101, 102, 17] : List Nat)) := h22
          have q26 := h22.1.symm
          subst q26
          have q27 := h22.2
          exact ⟨rfl, ⟨17, (Int64.ofNat 0), (Int32.ofInt 0), rfl, (by decide), (by omega), (by omega), rfl⟩, trivial⟩
        exact trivial
      ·
        intro L s34 hL
        obtain ⟨p28, w30, w31, rfl, h29, b32, b33, q37⟩ := hL
        have q37 := q37.symm
        subst q37
        simp only [List.mem_cons, List.not_mem_nil, or_false] at h29
        rcases h29 with rfl | rfl | rfl | rfl
        ·
          refine And.intro (fun c38 => ?_) (fun c38 => ?_)
          · have c38 : (Int32.ofNat 3).toInt ≤ w31.toInt := c38
            intro v39 e40
            have g41 : s0.1 35 0 = v39 := by rw [e40]
            refine And.intro (Nat.le_of_ble_eq_true rfl) (And.intro ⟨16, v39, rfl, by decide, i0⟩ ?_)
            intro v42 s44 h43
            have h43 : s44 = s0 ∧ (True) := h43
            have q47 := h43.1.symm
            subst q47
            intro v48 e49
            intro v50 e51
            show s0 = s0 ∧ (True)
            exact ⟨rfl, (trivial)⟩
          · have c38 : ¬ ((Int32.ofNat 3).toInt ≤ w31.toInt) := c38
            refine And.intro ⟨by omega, by omega⟩ ?_
            intro v52 e53
            intro v54 e55
            intro v56 e57
            have g58 : s0.1 35 2 = v56 := by rw [e57]
            intro v59 e60
            intro v61 e62
            have b63 := vg_and e62 (by omega)
            refine And.intro ⟨by omega, by omega⟩ ?_
            intro v64 e65
            intro v66 e67
            intro v68 e69
            intro v70 e71
            intro v72 e73
            have b74 := vg_add e73 (by omega) (by omega)
            exact ⟨rfl, ⟨100, v70, v72, rfl, (by decide), (by omega), (by omega), rfl⟩, (by show (11 - v72.toInt).toNat < (11 - w31.toInt).toNat; omega)⟩
        ·
          refine And.intro (fun c75 => ?_) (fun c75 => ?_)
          · have c75 : (Int32.ofNat 7).toInt ≤ w31.toInt := c75
            intro v76 e77
            have g78 : s0.1 35 0 = v76 := by rw [e77]
            refine And.intro (Nat.le_of_ble_eq_true rfl) (And.intro ⟨16, v76, rfl, by decide, i0⟩ ?_)
            intro v79 s81 h80
            have h80 : s81 = s0 ∧ (True) := h80
            have q84 := h80.1.symm
            subst q84
            intro v85 e86
            intro v87 e88
            show s0 = s0 ∧ (True)
            exact ⟨rfl, (trivial)⟩
          · have c75 : ¬ ((Int32.ofNat 7).toInt ≤ w31.toInt) := c75
            refine And.intro ⟨by omega, by omega⟩ ?_
            intro v89 e90
            intro v91 e92
            intro v93 e94
            have g95 : s0.1 35 2 = v93 := by rw [e94]
            intro v96 e97
            intro v98 e99
            have b100 := vg_and e99 (by omega)
            refine And.intro ⟨by omega, by omega⟩ ?_
            intro v101 e102
            intro v103 e104
            intro v105 e106
            intro v107 e108
            intro v109 e110
            have b111 := vg_add e110 (by omega) (by omega)
            exact ⟨rfl, ⟨101, v107, v109, rfl, (by decide), (by omega), (by omega), rfl⟩, (by show (11 - v109.toInt).toNat < (11 - w31.toInt).toNat; omega)⟩
        ·
          refine And.intro (fun c112 => ?_) (fun c112 => ?_)
          · have c112 : (Int32.ofNat 11).toInt ≤ w31.toInt := c112
            intro v113 e114
            have g115 : s0.1 35 0 = v113 := by rw [e114]
            refine And.intro (Nat.le_of_ble_eq_true rfl) (And.intro ⟨16, v113, rfl, by decide, i0⟩ ?_)
            intro v116 s118 h117
            have h117 : s118 = s0 ∧ (True) := h117
            have q121 := h117.1.symm
            subst q121
            intro v122 e123
            intro v124 e125
            show s0 = s0 ∧ (True)
            exact ⟨rfl, (trivial)⟩
          · have c112 : ¬ ((Int32.ofNat 11).toInt ≤ w31.toInt) := c112
            refine And.intro ⟨by omega, by omega⟩ ?_
            intro v126 e127
            intro v128 e129
            intro v130 e131
            have g132 : s0.1 35 2 = v130 := by rw [e131]
            intro v133 e134
            intro v135 e136
            have b137 := vg_and e136 (by omega)
            refine And.intro ⟨by omega, by omega⟩ ?_
            intro v138 e139
            intro v140 e141
            intro v142 e143
            intro v144 e145
            intro v146 e147
            have b148 := vg_add e147 (by omega) (by omega)
            exact ⟨rfl, ⟨102, v144, v146, rfl, (by decide), (by omega), (by omega), rfl⟩, (by show (11 - v146.toInt).toNat < (11 - w31.toInt).toNat; omega)⟩
        ·
          refine And.intro (fun c149 => ?_) (fun c149 => ?_)
          · have c149 : (Int32.ofNat 7).toInt ≤ w31.toInt := c149
            intro v150 e151
            have g152 : s0.1 35 0 = v150 := by rw [e151]
            refine And.intro (Nat.le_of_ble_eq_true rfl) (And.intro ⟨16, v150, rfl, by decide, i0⟩ ?_)
            intro v153 s155 h154
            have h154 : s155 = s0 ∧ (True) := h154
            have q158 := h154.1.symm
            subst q158
            intro v159 e160
            intro v161 e162
            show s0 = s0 ∧ (True)
            exact ⟨rfl, (trivial)⟩
          · have c149 : ¬ ((Int32.ofNat 7).toInt ≤ w31.toInt) := c149
            refine And.intro ⟨by omega, by omega⟩ ?_
            intro v163 e164
            intro v165 e166
            intro v167 e168
            have g169 : s0.1 35 2 = v167 := by rw [e168]
            intro v170 e171
            intro v172 e173
            have b174 := vg_and e173 (by omega)
            refine And.intro ⟨by omega, by omega⟩ ?_
            intro v175 e176
            intro v177 e178
            intro v179 e180
            intro v181 e182
            intro v183 e184
            have b185 := vg_add e184 (by omega) (by omega)
            exact ⟨rfl, ⟨17, v181, v183, rfl, (by decide), (by omega), (by omega), rfl⟩, (by show (11 - v183.toInt).toNat < (11 - w31.toInt).toNat; omega)⟩
  ·
    simp only [List.mem_cons, List.not_mem_nil, or_false] at ha1
    rcases ha1 with rfl
    ·
      have z0 : (Int32.ofInt 0).toInt = 0 := by decide
      have z1 : (Int32.ofInt 1).toInt = 1 := by decide
      have z15 : (Int32.ofInt 15).toInt = 15 := by decide
      have n3 : (Int32.ofNat 3).toInt = 3 := by decide
      have n7 : (Int32.ofNat 7).toInt = 7 := by decide
      have n11 : (Int32.ofNat 11).toInt = 11 := by decide
      refine ⟨Nat.le_of_ble_eq_true rfl, [(14, [true, true, true, true, false, true], (fun L t => ∃ (x2 : Nat) (x3 : Int64) (x5 : Int32), L = [some (.ref 37), some (.ref 16), some (.ref x2), some (.long x3), none, some (.int x5)] ∧ x2 ∈ ([100, 101, 102, 17] : List Nat) ∧ (0 : Int) ≤ x5.toInt ∧ x5.toInt ≤ (11 : Int) ∧ t = s0), (fun L _ => (11 - (vg_li L 5).toInt).toNat))], ?_, List.forall_mem_cons.mpr ⟨?_, fun _ h => absurd h List.not_mem_nil⟩⟩
      ·
        intro v1 e2
        have g3 : s0.1 37 0 = v1 := by rw [e2]
        refine And.intro (Nat.le_of_ble_eq_true rfl) (And.intro ⟨16, v1, rfl, by decide, i0⟩ ?_)
        refine And.intro ?_ ?_
        ·
          intro s5 h4
          have h4 : s5 = s0 ∧ (100 ∈ ([100, 101, 102, 17] : List Nat)) := h4
          have q8 := h4.1.symm
          subst q8
          have q9 := h4.2
          exact ⟨rfl, ⟨100, (Int64.ofNat 0), (Int32.ofInt 0), rfl, (by decide), (by omega), (by omega), rfl⟩, trivial⟩
        refine And.intro ?_ ?_
        ·
          intro s11 h10
          have h10 : s11 = s0 ∧ (101 ∈ ([100, 101, 102, 17] : List Nat)) := h10
          have q14 := h10.1.symm
          subst q14
          have q15 := h10.2
          exact ⟨rfl, ⟨101, (Int64.ofNat 0), (Int32.ofInt 0), rfl, (by decide), (by omega), (by omega), rfl⟩, trivial⟩
        refine And.intro ?_ ?_
        ·
          intro s17 h16
          have h16 : s17 = s0 ∧ (102 ∈ ([100, 101, 102, 17] : List Nat)) := h16
          have q20 := h16.1.symm
          subst q20
          have q21 := h16.2
          exact ⟨rfl, ⟨102, (Int64.ofNat 0), (Int32.ofInt 0), rfl, (by decide), (by omega), (by omega), rfl⟩, trivial⟩
        refine And.intro ?_ ?_
        ·
          intro s23 h22
          have h22 : s23 = s0 ∧ (17 ∈ ([100, 101, 102, 17] : List Nat)) := h22
          have q26 := h22.1.symm
          subst q26
          have q27 := h22.2
          exact ⟨rfl, ⟨17, (Int64.ofNat 0), (Int32.ofInt 0), rfl, (by decide), (by omega), (by omega), rfl⟩, trivial⟩
        exact trivial
      ·
        intro L s34 hL
        obtain ⟨p28, w30, w31, rfl, h29, b32, b33, q37⟩ := hL
        have q37 := q37.symm
        subst q37
        simp only [List.mem_cons, List.not_mem_nil, or_false] at h29
        rcases h29 with rfl | rfl | rfl | rfl
        ·
          refine And.intro (fun c38 => ?_) (fun c38 => ?_)
          · have c38 : (Int32.ofNat 3).toInt ≤ w31.toInt := c38
            intro v39 e40
            have g41 : s0.1 37 0 = v39 := by rw [e40]
            refine And.intro (Nat.le_of_ble_eq_true rfl) (And.intro ⟨16, v39, rfl, by decide, i0⟩ ?_)
            intro v42 s44 h43
            have h43 : s44 = s0 ∧ (True) := h43
            have q47 := h43.1.symm
            subst q47
            intro v48 e49
            intro v50 e51
            show s0 = s0 ∧ (True)
            exact ⟨rfl, (trivial)⟩
          · have c38 : ¬ ((Int32.ofNat 3).toInt ≤ w31.toInt) := c38
            refine And.intro ⟨by omega, by omega⟩ ?_
            intro v52 e53
            intro v54 e55
            intro v56 e57
            have g58 : s0.1 37 2 = v56 := by rw [e57]
            intro v59 e60
            intro v61 e62
            have b63 := vg_and e62 (by omega)
            refine And.intro ⟨by omega, by omega⟩ ?_
            intro v64 e65
            intro v66 e67
            intro v68 e69
            intro v70 e71
            intro v72 e73
            have b74 := vg_add e73 (by omega) (by omega)
            exact ⟨rfl, ⟨100, v70, v72, rfl, (by decide), (by omega), (by omega), rfl⟩, (by show (11 - v72.toInt).toNat < (11 - w31.toInt).toNat; omega)⟩
        ·
          refine And.intro (fun c75 => ?_) (fun c75 => ?_)
          · have c75 : (Int32.ofNat 7).toInt ≤ w31.toInt := c75
            intro v76 e77
            have g78 : s0.1 37 0 = v76 := by rw [e77]
            refine And.intro (Nat.le_of_ble_eq_true rfl) (And.intro ⟨16, v76, rfl, by decide, i0⟩ ?_)
            intro v79 s81 h80
            have h80 : s81 = s0 ∧ (True) := h80
            have q84 := h80.1.symm
            subst q84
            intro v85 e86
            intro v87 e88
            show s0 = s0 ∧ (True)
            exact ⟨rfl, (trivial)⟩
          · have c75 : ¬ ((Int32.ofNat 7).toInt ≤ w31.toInt) := c75
            refine And.intro ⟨by omega, by omega⟩ ?_
            intro v89 e90
            intro v91 e92
            intro v93 e94
            have g95 : s0.1 37 2 = v93 := by rw [e94]
            intro v96 e97
            intro v98 e99
            have b100 := vg_and e99 (by omega)
            refine And.intro ⟨by omega, by omega⟩ ?_
            intro v101 e102
            intro v103 e104
            intro v105 e106
            intro v107 e108
            intro v109 e110
            have b111 := vg_add e110 (by omega) (by omega)
            exact ⟨rfl, ⟨101, v107, v109, rfl, (by decide), (by omega), (by omega), rfl⟩, (by show (11 - v109.toInt).toNat < (11 - w31.toInt).toNat; omega)⟩
        ·
          refine And.intro (fun c112 => ?_) (fun c112 => ?_)
          · have c112 : (Int32.ofNat 11).toInt ≤ w31.toInt := c112
            intro v113 e114
            have g115 : s0.1 37 0 = v113 := by rw [e114]
            refine And.intro (Nat.le_of_ble_eq_true rfl) (And.intro ⟨16, v113, rfl, by decide, i0⟩ ?_)
            intro v116 s118 h117
            have h117 : s118 = s0 ∧ (True) := h117
            have q121 := h117.1.symm
            subst q121
            intro v122 e123
            intro v124 e125
            show s0 = s0 ∧ (True)
            exact ⟨rfl, (trivial)⟩
          · have c112 : ¬ ((Int32.ofNat 11).toInt ≤ w31.toInt) := c112
            refine And.intro ⟨by omega, by omega⟩ ?_
            intro v126 e127
            intro v128 e129
            intro v130 e131
            have g132 : s0.1 37 2 = v130 := by rw [e131]
            intro v133 e134
            intro v135 e136
            have b137 := vg_and e136 (by omega)
            refine And.intro ⟨by omega, by omega⟩ ?_
            intro v138 e139
            intro v140 e141
            intro v142 e143
            intro v144 e145
            intro v146 e147
            have b148 := vg_add e147 (by omega) (by omega)
            exact ⟨rfl, ⟨102, v144, v146, rfl, (by decide), (by omega), (by omega), rfl⟩, (by show (11 - v146.toInt).toNat < (11 - w31.toInt).toNat; omega)⟩
        ·
          refine And.intro (fun c149 => ?_) (fun c149 => ?_)
          · have c149 : (Int32.ofNat 7).toInt ≤ w31.toInt := c149
            intro v150 e151
            have g152 : s0.1 37 0 = v150 := by rw [e151]
            refine And.intro (Nat.le_of_ble_eq_true rfl) (And.intro ⟨16, v150, rfl, by decide, i0⟩ ?_)
            intro v153 s155 h154
            have h154 : s155 = s0 ∧ (True) := h154
            have q158 := h154.1.symm
            subst q158
            intro v159 e160
            intro v161 e162
            show s0 = s0 ∧ (True)
            exact ⟨rfl, (trivial)⟩
          · have c149 : ¬ ((Int32.ofNat 7).toInt ≤ w31.toInt) := c149
            refine And.intro ⟨by omega, by omega⟩ ?_
            intro v163 e164
            intro v165 e166
            intro v167 e168
            have g169 : s0.1 37 2 = v167 := by rw [e168]
            intro v170 e171
            intro v172 e173
            have b174 := vg_and e173 (by omega)
            refine And.intro ⟨by omega, by omega⟩ ?_
            intro v175 e176
            intro v177 e178
            intro v179 e180
            intro v181 e182
            intro v183 e184
            have b185 := vg_add e184 (by omega) (by omega)
            exact ⟨rfl, ⟨17, v181, v183, rfl, (by decide), (by omega), (by omega), rfl⟩, (by show (11 - v183.toInt).toNat < (11 - w31.toInt).toNat; omega)⟩
  ·
    simp only [List.mem_cons, List.not_mem_nil, or_false] at ha1
    rcases ha1 with rfl
    ·
      have z0 : (Int32.ofInt 0).toInt = 0 := by decide
      have z1 : (Int32.ofInt 1).toInt = 1 := by decide
      have z15 : (Int32.ofInt 15).toInt = 15 := by decide
      have n3 : (Int32.ofNat 3).toInt = 3 := by decide
      have n7 : (Int32.ofNat 7).toInt = 7 := by decide
      have n11 : (Int32.ofNat 11).toInt = 11 := by decide
      refine ⟨Nat.le_of_ble_eq_true rfl, [(14, [true, true, true, true, false, true], (fun L t => ∃ (x2 : Nat) (x3 : Int64) (x5 : Int32), L = [some (.ref 39), some (.ref 16), some (.ref x2), some (.long x3), none, some (.int x5)] ∧ x2 ∈ ([100, 101, 102, 17] : List Nat) ∧ (0 : Int) ≤ x5.toInt ∧ x5.toInt ≤ (11 : Int) ∧ t = s0), (fun L _ => (11 - (vg_li L 5).toInt).toNat))], ?_, List.forall_mem_cons.mpr ⟨?_, fun _ h => absurd h List.not_mem_nil⟩⟩
      ·
        intro v1 e2
        have g3 : s0.1 39 0 = v1 := by rw [e2]
        refine And.intro (Nat.le_of_ble_eq_true rfl) (And.intro ⟨16, v1, rfl, by decide, i0⟩ ?_)
        refine And.intro ?_ ?_
        ·
          intro s5 h4
          have h4 : s5 = s0 ∧ (100 ∈ ([100, 101, 102, 17] : List Nat)) := h4
          have q8 := h4.1.symm
          subst q8
          have q9 := h4.2
          exact ⟨rfl, ⟨100, (Int64.ofNat 0), (Int32.ofInt 0), rfl, (by decide), (by omega), (by omega), rfl⟩, trivial⟩
        refine And.intro ?_ ?_
        ·
          intro s11 h10
          have h10 : s11 = s0 ∧ (101 ∈ ([100, 101, 102, 17] : List Nat)) := h10
          have q14 := h10.1.symm
          subst q14
          have q15 := h10.2
          exact ⟨rfl, ⟨101, (Int64.ofNat 0), (Int32.ofInt 0), rfl, (by decide), (by omega), (by omega), rfl⟩, trivial⟩
        refine And.intro ?_ ?_
        ·
          intro s17 h16
          have h16 : s17 = s0 ∧ (102 ∈ ([100, 101, 102, 17] : List Nat)) := h16
          have q20 := h16.1.symm
          subst q20
          have q21 := h16.2
          exact ⟨rfl, ⟨102, (Int64.ofNat 0), (Int32.ofInt 0), rfl, (by decide), (by omega), (by omega), rfl⟩, trivial⟩
        refine And.intro ?_ ?_
        ·
          intro s23 h22
          have h22 : s23 = s0 ∧ (17 ∈ ([100, 101, 102, 17] : List Nat)) := h22
          have q26 := h22.1.symm
          subst q26
          have q27 := h22.2
          exact ⟨rfl, ⟨17, (Int64.ofNat 0), (Int32.ofInt 0), rfl, (by decide), (by omega), (by omega), rfl⟩, trivial⟩
        exact trivial
      ·
        intro L s34 hL
        obtain ⟨p28, w30, w31, rfl, h29, b32, b33, q37⟩ := hL
        have q37 := q37.symm
        subst q37
        simp only [List.mem_cons, List.not_mem_nil, or_false] at h29
        rcases h29 with rfl | rfl | rfl | rfl
        ·
          refine And.intro (fun c38 => ?_) (fun c38 => ?_)
          · have c38 : (Int32.ofNat 3).toInt ≤ w31.toInt := c38
            intro v39 e40
            have g41 : s0.1 39 0 = v39 := by rw [e40]
            refine And.intro (Nat.le_of_ble_eq_true rfl) (And.intro ⟨16, v39, rfl, by decide, i0⟩ ?_)
            intro v42 s44 h43
            have h43 : s44 = s0 ∧ (True) := h43
            have q47 := h43.1.symm
            subst q47
            intro v48 e49
            intro v50 e51
            show s0 = s0 ∧ (True)
            exact ⟨rfl, (trivial)⟩
          · have c38 : ¬ ((Int32.ofNat 3).toInt ≤ w31.toInt) := c38
            refine And.intro ⟨by omega, by omega⟩ ?_
            intro v52 e53
            intro v54 e55
            intro v56 e57
            have g58 : s0.1 39 2 = v56 := by rw [e57]
            intro v59 e60
            intro v61 e62
            have b63 := vg_and e62 (by omega)
            refine And.intro ⟨by omega, by omega⟩ ?_
            intro v64 e65
            intro v66 e67
            intro v68 e69
            intro v70 e71
            intro v72 e73
            have b74 := vg_add e73 (by omega) (by omega)
            exact ⟨rfl, ⟨100, v70, v72, rfl, (by decide), (by omega), (by omega), rfl⟩, (by show (11 - v72.toInt).toNat < (11 - w31.toInt).toNat; omega)⟩
        ·
          refine And.intro (fun c75 => ?_) (fun c75 => ?_)
          · have c75 : (Int32.ofNat 7).toInt ≤ w31.toInt := c75
            intro v76 e77
            have g78 : s0.1 39 0 = v76 := by rw [e77]
            refine And.intro (Nat.le_of_ble_eq_true rfl) (And.intro ⟨16, v76, rfl, by decide, i0⟩ ?_)
            intro v79 s81 h80
            have h80 : s81 = s0 ∧ (True) := h80
            have q84 := h80.1.symm
            subst q84
            intro v85 e86
            intro v87 e88
            show s0 = s0 ∧ (True)
            exact ⟨rfl, (trivial)⟩
          · have c75 : ¬ ((Int32.ofNat 7).toInt ≤ w31.toInt) := c75
            refine And.intro ⟨by omega, by omega⟩ ?_
            intro v89 e90
            intro v91 e92
            intro v93 e94
            have g95 : s0.1 39 2 = v93 := by rw [e94]
            intro v96 e97
            intro v98 e99
            have b100 := vg_and e99 (by omega)
            refine And.intro ⟨by omega, by omega⟩ ?_
            intro v101 e102
            intro v103 e104
            intro v105 e106
            intro v107 e108
            intro v109 e110
            have b111 := vg_add e110 (by omega) (by omega)
            exact ⟨rfl, ⟨101, v107, v109, rfl, (by decide), (by omega), (by omega), rfl⟩, (by show (11 - v109.toInt).toNat < (11 - w31.toInt).toNat; omega)⟩
        ·
          refine And.intro (fun c112 => ?_) (fun c112 => ?_)
          · have c112 : (Int32.ofNat 11).toInt ≤ w31.toInt := c112
            intro v113 e114
            have g115 : s0.1 39 0 = v113 := by rw [e114]
            refine And.intro (Nat.le_of_ble_eq_true rfl) (And.intro ⟨16, v113, rfl, by decide, i0⟩ ?_)
            intro v116 s118 h117
            have h117 : s118 = s0 ∧ (True) := h117
            have q121 := h117.1.symm
            subst q121
            intro v122 e123
            intro v124 e125
            show s0 = s0 ∧ (True)
            exact ⟨rfl, (trivial)⟩
          · have c112 : ¬ ((Int32.ofNat 11).toInt ≤ w31.toInt) := c112
            refine And.intro ⟨by omega, by omega⟩ ?_
            intro v126 e127
            intro v128 e129
            intro v130 e131
            have g132 : s0.1 39 2 = v130 := by rw [e131]
            intro v133 e134
            intro v135 e136
            have b137 := vg_and e136 (by omega)
            refine And.intro ⟨by omega, by omega⟩ ?_
            intro v138 e139
            intro v140 e141
            intro v142 e143
            intro v144 e145
            intro v146 e147
            have b148 := vg_add e147 (by omega) (by omega)
            exact ⟨rfl, ⟨102, v144, v146, rfl, (by decide), (by omega), (by omega), rfl⟩, (by show (11 - v146.toInt).toNat < (11 - w31.toInt).toNat; omega)⟩
        ·
          refine And.intro (fun c149 => ?_) (fun c149 => ?_)
          · have c149 : (Int32.ofNat 7).toInt ≤ w31.toInt := c149
            intro v150 e151
            have g152 : s0.1 39 0 = v150 := by rw [e151]
            refine And.intro (Nat.le_of_ble_eq_true rfl) (And.intro ⟨16, v150, rfl, by decide, i0⟩ ?_)
            intro v153 s155 h154
            have h154 : s155 = s0 ∧ (True) := h154
            have q158 := h154.1.symm
            subst q158
            intro v159 e160
            intro v161 e162
            show s0 = s0 ∧ (True)
            exact ⟨rfl, (trivial)⟩
          · have c149 : ¬ ((Int32.ofNat 7).toInt ≤ w31.toInt) := c149
            refine And.intro ⟨by omega, by omega⟩ ?_
            intro v163 e164
            intro v165 e166
            intro v167 e168
            have g169 : s0.1 39 2 = v167 := by rw [e168]
            intro v170 e171
            intro v172 e173
            have b174 := vg_and e173 (by omega)
            refine And.intro ⟨by omega, by omega⟩ ?_
            intro v175 e176
            intro v177 e178
            intro v179 e180
            intro v181 e182
            intro v183 e184
            have b185 := vg_add e184 (by omega) (by omega)
            exact ⟨rfl, ⟨17, v181, v183, rfl, (by decide), (by omega), (by omega), rfl⟩, (by show (11 - v183.toInt).toNat < (11 - w31.toInt).toNat; omega)⟩
def o_X8_tell : List vg_I := [(0, .aload_n 0, 1, 0, 0, 0, 0), (1, .getfield 7, 3, 334, 8, 0, 0), (4, .iconst 0, 1, 0, 0, 0, 0), (5, .iload_n 1, 1, 0, 0, 0, 0), (6, .iastore, 1, 0, 0, 0, 0), (7, .aload_n 0, 1, 0, 0, 0, 0), (8, .getfield 7, 3, 334, 8, 0, 0), (11, .iconst 1, 1, 0, 0, 0, 0), (12, .iload_n 2, 1, 0, 0, 0, 0), (13, .iastore, 1, 0, 0, 0, 0), (14, .aload_n 0, 1, 0, 0, 0, 0), (15, .getfield 7, 3, 334, 8, 0, 0), (18, .iconst 2, 1, 0, 0, 0, 0), (19, .iload_n 3, 1, 0, 0, 0, 0), (20, .iastore, 1, 0, 0, 0, 0), (21, .aload_n 0, 1, 0, 0, 0, 0), (22, .getfield 7, 3, 334, 8, 0, 0), (25, .iconst 3, 1, 0, 0, 0, 0), (26, .iload 4, 2, 0, 0, 0, 0), (28, .iastore, 1, 0, 0, 0, 0), (29, .aload_n 0, 1, 0, 0, 0, 0), (30, .getfield 7, 3, 334, 8, 0, 0), (33, .iconst 4, 1, 0, 0, 0, 0), (34, .iload_n 3, 1, 0, 0, 0, 0), (35, .iastore, 1, 0, 0, 0, 0), (36, .aload_n 0, 1, 0, 0, 0, 0), (37, .getfield 7, 3, 334, 8, 0, 0), (40, .iconst 5, 1, 0, 0, 0, 0), (41, .iload_n 2, 1, 0, 0, 0, 0), (42, .iastore, 1, 0, 0, 0, 0), (43, .aload_n 0, 1, 0, 0, 0, 0), (44, .getfield 7, 3, 334, 8, 0, 0), (47, .bipush 6, 2, 0, 0, 0, 0), (49, .iload_n 1, 1, 0, 0, 0, 0), (50, .iastore, 1, 0, 0, 0, 0), (51, .aload_n 0, 1, 0, 0, 0, 0), (52, .iload 5, 2, 0, 0, 0, 0), (54, .putfield 19, 3, 335, 8, 1, 0), (57, .return_, 1, 0, 0, 0, 0)]
set_option maxRecDepth 100000 in
set_option maxHeartbeats 4000000 in
theorem c_X8_tell (l : Launch) (G : vg_G) (hp : vg_Hp G) : vg_Ct l G vg_sh r_X8_tell := by
  refine vg_meth hp vg_sh_ok r_X8_tell k_X8_tell rfl (fun h => by cases h) o_X8_tell [] false (by decide +kernel) (by decide +kernel) ⟨_, _, rfl, rfl⟩ (fun _ h => absurd h List.not_mem_nil) (fun h => by cases h) 600 ?_
  intro as s0 hpre
  obtain ⟨r, a1, a2, a3, a4, a5, rfl, hr, i0⟩ := hpre
  simp only [List.mem_cons, List.not_mem_nil, or_false] at hr
  rcases hr with rfl
  ·
    have z0 : (Int32.ofInt 0).toInt = 0 := by decide
    have z1 : (Int32.ofInt 1).toInt = 1 := by decide
    have z2 : (Int32.ofInt 2).toInt = 2 := by decide
    have z3 : (Int32.ofInt 3).toInt = 3 := by decide
    have z4 : (Int32.ofInt 4).toInt = 4 := by decide
    have z5 : (Int32.ofInt 5).toInt = 5 := by decide
    have z6 : (Int32.ofInt 6).toInt = 6 := by decide
    refine ⟨Nat.le_of_ble_eq_true rfl, [], ?_, fun _ h => absurd h List.not_mem_nil⟩
    ·
      refine And.intro ⟨by omega, by omega⟩ ?_
      intro s1 e2
      have i3 : Iv s1 := Iv.a1 i0 e2 rfl
      have k4 : Ks s0 s1 := Kx.u1 Kx.rf e2 rfl
      refine And.intro ⟨by omega, by omega⟩ ?_
      intro s5 e6
      have i7 : Iv s5 := Iv.a1 i3 e6 rfl
      have k8 : Ks s0 s5 := Kx.u1 k4 e6 rfl
      refine And.intro ⟨by omega, by omega⟩ ?_
      intro s9 e10
      have i11 : Iv s9 := Iv.a1 i7 e10 rfl
      have k12 : Ks s0 s9 := Kx.u1 k8 e10 rfl
      refine And.intro ⟨by omega, by omega⟩ ?_
      intro s13 e14
      have i15 : Iv s13 := Iv.a1 i11 e14 rfl
      have k16 : Ks s0 s13 := Kx.u1 k12 e14 rfl
      refine And.intro ⟨by omega, by omega⟩ ?_
      intro s17 e18
      have i19 : Iv s17 := Iv.a1 i15 e18 rfl
      have k20 : Ks s0 s17 := Kx.u1 k16 e18 rfl
      refine And.intro ⟨by omega, by omega⟩ ?_
      intro s21 e22
      have i23 : Iv s21 := Iv.a1 i19 e22 rfl
      have k24 : Ks s0 s21 := Kx.u1 k20 e22 rfl
      refine And.intro ⟨by omega, by omega⟩ ?_
      intro s25 e26
      have i27 : Iv s25 := Iv.a1 i23 e26 rfl
      have k28 : Ks s0 s25 := Kx.u1 k24 e26 rfl
      intro s29 e30
      have i31 : Iv s29 := Iv.u1 i27 e30 rfl
      have k32 : Ks s0 s29 := Kx.u1 k28 e30 rfl
      show Iv s29 ∧ Ks s0 s29 ∧ (True)
      exact ⟨i31, k32, (trivial)⟩
def o_X8_sumOf : List vg_I := [(0, .iconst 0, 1, 0, 0, 0, 0), (1, .istore_n 2, 1, 0, 0, 0, 0), (2, .aload_n 0, 1, 0, 0, 0, 0), (3, .iload_n 1, 1, 0, 0, 0, 0), (4, .invokevirtual 32, 3, 0, 8, 1, 587), (7, .astore_n 3, 1, 0, 0, 0, 0), (8, .aload_n 3, 1, 0, 0, 0, 0), (9, .arraylength, 1, 0, 0, 0, 0), (10, .istore 4, 2, 0, 0, 0, 0), (12, .iconst 0, 1, 0, 0, 0, 0), (13, .istore 5, 2, 0, 0, 0, 0), (15, .iload 5, 2, 0, 0, 0, 0), (17, .iload 4, 2, 0, 0, 0, 0), (19, .if_icmp .ge 20, 3, 0, 0, 0, 0), (22, .aload_n 3, 1, 0, 0, 0, 0), (23, .iload 5, 2, 0, 0, 0, 0), (25, .iaload, 1, 0, 0, 0, 0), (26, .istore 6, 2, 0, 0, 0, 0), (28, .iload_n 2, 1, 0, 0, 0, 0), (29, .iload 6, 2, 0, 0, 0, 0), (31, .iadd, 1, 0, 0, 0, 0), (32, .istore_n 2, 1, 0, 0, 0, 0), (33, .iinc 5 1, 3, 0, 0, 0, 0), (36, .goto (-21), 3, 0, 0, 0, 0), (39, .iload_n 2, 1, 0, 0, 0, 0), (40, .ireturn, 1, 0, 0, 0, 0)]
set_option maxRecDepth 100000 in
set_option maxHeartbeats 4000000 in
theorem c_X8_sumOf (l : Launch) (G : vg_G) (hp : vg_Hp G) : vg_Ct l G vg_sh r_X8_sumOf := by
  refine vg_meth hp vg_sh_ok r_X8_sumOf k_X8_sumOf rfl (fun h => by cases h) o_X8_sumOf [r_X8_rowOf] false (by decide +kernel) (by decide +kernel) ⟨_, _, rfl, rfl⟩ (List.forall_mem_cons.mpr ⟨⟨c_X8_rowOf l G hp, Nat.le_of_ble_eq_true rfl, Nat.le_of_ble_eq_true rfl⟩, fun _ h => absurd h List.not_mem_nil⟩) (fun h => by cases h) 600 ?_
  intro as s0 hpre
  obtain ⟨r, a1, rfl, hr, i0⟩ := hpre
  simp only [List.mem_cons, List.not_mem_nil, or_false] at hr
  rcases hr with rfl
  ·
    have z0 : (Int32.ofInt 0).toInt = 0 := by decide
    have z1 : (Int32.ofInt 1).toInt = 1 := by decide
    have n3 : (Int32.ofNat 3).toInt = 3 := by decide
    have n7 : (Int32.ofNat 7).toInt = 7 := by decide
    have n11 : (Int32.ofNat 11).toInt = 11 := by decide
    refine ⟨Nat.le_of_ble_eq_true rfl, [(15, [false, false, true, true, true, true, false], (fun L t => ∃ (x2 : Int32) (x3 : Nat) (x4 : Int32) (x5 : Int32), L = [none, none, some (.int x2), some (.ref x3), some (.int x4), some (.int x5), none] ∧ x3 ∈ ([100, 101, 102, 17] : List Nat) ∧ (3 : Int) ≤ x4.toInt ∧ x4.toInt ≤ (11 : Int) ∧ (0 : Int) ≤ x5.toInt ∧ x5.toInt ≤ (11 : Int) ∧ ((x3 = 100 → x4.toInt = 3) ∧ (x3 = 101 → x4.toInt = 7) ∧ (x3 = 102 → x4.toInt = 11) ∧ (x3 = 17 → x4.toInt = 7)) ∧ t = s0), (fun L _ => (11 - (vg_li L 5).toInt).toNat))], ?_, List.forall_mem_cons.mpr ⟨?_, fun _ h => absurd h List.not_mem_nil⟩⟩
    ·
      refine And.intro (Nat.le_of_ble_eq_true rfl) (And.intro ⟨16, a1, rfl, by decide, i0⟩ ?_)
      refine And.intro ?_ ?_
      ·
        intro s2 h1
        have h1 : s2 = s0 ∧ (100 ∈ ([100, 101, 102, 17] : List Nat)) := h1
        have q5 := h1.1.symm
        subst q5
        have q6 := h1.2
        exact ⟨rfl, ⟨(Int32.ofInt 0), 100, (Int32.ofNat 3), (Int32.ofInt 0), rfl, (by decide), (by omega), (by omega), (by omega), (by omega), (by omega), rfl⟩, trivial⟩
      refine And.intro ?_ ?_
      ·
        intro s8 h7
        have h7 : s8 = s0 ∧ (101 ∈ ([100, 101, 102, 17] : List Nat)) := h7
        have q11 := h7.1.symm
        subst q11
        have q12 := h7.2
        exact ⟨rfl, ⟨(Int32.ofInt 0), 101, (Int32.ofNat 7), (Int32.ofInt 0), rfl, (by decide), (by omega), (by omega), (by omega), (by omega), (by omega), rfl⟩, trivial⟩
      refine And.intro ?_ ?_
      ·
        intro s14 h13
        have h13 : s14 = s0 ∧ (102 ∈ ([100, 101, 102, 17] : List Nat)) := h13
        have q17 := h13.1.symm
        subst q17
        have q18 := h13.2
        exact ⟨rfl, ⟨(Int32.ofInt 0), 102, (Int32.ofNat 11), (Int32.ofInt 0), rfl, (by decide), (by omega), (by omega), (by omega), (by omega), (by omega), rfl⟩, trivial⟩
      refine And.intro ?_ ?_
      ·
        intro s20 h19
        have h19 : s20 = s0 ∧ (17 ∈ ([100, 101, 102, 17] : List Nat)) := h19
        have q23 := h19.1.symm
        subst q23
        have q24 := h19.2
        exact ⟨rfl, ⟨(Int32.ofInt 0), 17, (Int32.ofNat 7), (Int32.ofInt 0), rfl, (by decide), (by omega), (by omega), (by omega), (by omega), (by omega), rfl⟩, trivial⟩
      exact trivial
    ·
      intro L s35 hL
      obtain ⟨w25, p26, w28, w31, rfl, h27, b29, b30, b32, b33, x34, q38⟩ := hL
      have q38 := q38.symm
      subst q38
      simp only [List.mem_cons, List.not_mem_nil, or_false] at h27
      rcases h27 with rfl | rfl | rfl | rfl
      ·
        refine And.intro (fun c39 => ?_) (fun c39 => ?_)
        · have c39 : w28.toInt ≤ w31.toInt := c39
          show s0 = s0 ∧ (True)
          exact ⟨rfl, (trivial)⟩
        · have c39 : ¬ (w28.toInt ≤ w31.toInt) := c39
          refine And.intro ⟨by omega, by omega⟩ ?_
          intro v40 e41
          intro v42 e43
          intro v44 e45
          have b46 := vg_add e45 (by omega) (by omega)
          exact ⟨rfl, ⟨v42, 100, w28, v44, rfl, (by decide), (by omega), (by omega), (by omega), (by omega), (by omega), rfl⟩, (by show (11 - v44.toInt).toNat < (11 - w31.toInt).toNat; omega)⟩
      ·
        refine And.intro (fun c47 => ?_) (fun c47 => ?_)
        · have c47 : w28.toInt ≤ w31.toInt := c47
          show s0 = s0 ∧ (True)
          exact ⟨rfl, (trivial)⟩
        · have c47 : ¬ (w28.toInt ≤ w31.toInt) := c47
          refine And.intro ⟨by omega, by omega⟩ ?_
          intro v48 e49
          intro v50 e51
          intro v52 e53
          have b54 := vg_add e53 (by omega) (by omega)
          exact ⟨rfl, ⟨v50, 101, w28, v52, rfl, (by decide), (by omega), (by omega), (by omega), (by omega), (by omega), rfl⟩, (by show (11 - v52.toInt).toNat < (11 - w31.toInt).toNat; omega)⟩
      ·
        refine And.intro (fun c55 => ?_) (fun c55 => ?_)
        · have c55 : w28.toInt ≤ w31.toInt := c55
          show s0 = s0 ∧ (True)
          exact ⟨rfl, (trivial)⟩
        · have c55 : ¬ (w28.toInt ≤ w31.toInt) := c55
          refine And.intro ⟨by omega, by omega⟩ ?_
          intro v56 e57
          intro v58 e59
          intro v60 e61
          have b62 := vg_add e61 (by omega) (by omega)
          exact ⟨rfl, ⟨v58, 102, w28, v60, rfl, (by decide), (by omega), (by omega), (by omega), (by omega), (by omega), rfl⟩, (by show (11 - v60.toInt).toNat < (11 - w31.toInt).toNat; omega)⟩
      ·
        refine And.intro (fun c63 => ?_) (fun c63 => ?_)
        · have c63 : w28.toInt ≤ w31.toInt := c63
          show s0 = s0 ∧ (True)
          exact ⟨rfl, (trivial)⟩
        · have c63 : ¬ (w28.toInt ≤ w31.toInt) := c63
          refine And.intro ⟨by omega, by omega⟩ ?_
          intro v64 e65
          intro v66 e67
          intro v68 e69
          have b70 := vg_add e69 (by omega) (by omega)
          exact ⟨rfl, ⟨v66, 17, w28, v68, rfl, (by decide), (by omega), (by omega), (by omega), (by omega), (by omega), rfl⟩, (by show (11 - v68.toInt).toNat < (11 - w31.toInt).toNat; omega)⟩
def o_X8_isHalfBand : List vg_I := [(0, .aload_n 0, 1, 0, 0, 0, 0), (1, .iload_n 1, 1, 0, 0, 0, 0), (2, .invokevirtual 32, 3, 0, 8, 1, 587), (5, .astore_n 2, 1, 0, 0, 0, 0), (6, .aload_n 2, 1, 0, 0, 0, 0), (7, .arraylength, 1, 0, 0, 0, 0), (8, .iconst 2, 1, 0, 0, 0, 0), (9, .idiv, 1, 0, 0, 0, 0), (10, .iconst 2, 1, 0, 0, 0, 0), (11, .iadd, 1, 0, 0, 0, 0), (12, .istore_n 3, 1, 0, 0, 0, 0), (13, .iload_n 3, 1, 0, 0, 0, 0), (14, .aload_n 2, 1, 0, 0, 0, 0), (15, .arraylength, 1, 0, 0, 0, 0), (16, .if_icmp .ge 17, 3, 0, 0, 0, 0), (19, .aload_n 2, 1, 0, 0, 0, 0), (20, .iload_n 3, 1, 0, 0, 0, 0), (21, .iaload, 1, 0, 0, 0, 0), (22, .ifCond .eq 5, 3, 0, 0, 0, 0), (25, .iconst 0, 1, 0, 0, 0, 0), (26, .ireturn, 1, 0, 0, 0, 1), (27, .iinc 3 2, 3, 0, 0, 0, 0), (30, .goto (-17), 3, 0, 0, 0, 0), (33, .iconst 1, 1, 0, 0, 0, 0), (34, .ireturn, 1, 0, 0, 0, 1)]
set_option maxRecDepth 100000 in
set_option maxHeartbeats 4000000 in
theorem c_X8_isHalfBand (l : Launch) (G : vg_G) (hp : vg_Hp G) : vg_Ct l G vg_sh r_X8_isHalfBand := by
  refine vg_meth hp vg_sh_ok r_X8_isHalfBand k_X8_isHalfBand rfl (fun h => by cases h) o_X8_isHalfBand [r_X8_rowOf] false (by decide +kernel) (by decide +kernel) ⟨_, _, rfl, rfl⟩ (List.forall_mem_cons.mpr ⟨⟨c_X8_rowOf l G hp, Nat.le_of_ble_eq_true rfl, Nat.le_of_ble_eq_true rfl⟩, fun _ h => absurd h List.not_mem_nil⟩) (fun h => by cases h) 600 ?_
  intro as s0 hpre
  obtain ⟨r, a1, rfl, hr, i0⟩ := hpre
  simp only [List.mem_cons, List.not_mem_nil, or_false] at hr
  rcases hr with rfl
  ·
    have z0 : (Int32.ofInt 0).toInt = 0 := by decide
    have z1 : (Int32.ofInt 1).toInt = 1 := by decide
    have z2 : (Int32.ofInt 2).toInt = 2 := by decide
    have n3 : (Int32.ofNat 3).toInt = 3 := by decide
    have n7 : (Int32.ofNat 7).toInt = 7 := by decide
    have n11 : (Int32.ofNat 11).toInt = 11 := by decide
    refine ⟨Nat.le_of_ble_eq_true rfl, [(13, [false, false, true, true], (fun L t => ∃ (x2 : Nat) (x3 : Int32), L = [none, none, some (.ref x2), some (.int x3)] ∧ x2 ∈ ([100, 101, 102, 17] : List Nat) ∧ (0 : Int) ≤ x3.toInt ∧ x3.toInt ≤ (13 : Int) ∧ t = s0), (fun L _ => (13 - (vg_li L 3).toInt).toNat))], ?_, List.forall_mem_cons.mpr ⟨?_, fun _ h => absurd h List.not_mem_nil⟩⟩
    ·
      refine And.intro (Nat.le_of_ble_eq_true rfl) (And.intro ⟨16, a1, rfl, by decide, i0⟩ ?_)
      refine And.intro ?_ ?_
      ·
        intro s2 h1
        have h1 : s2 = s0 ∧ (100 ∈ ([100, 101, 102, 17] : List Nat)) := h1
        have q5 := h1.1.symm
        subst q5
        have q6 := h1.2
        refine And.intro (by omega) ?_
        intro v7 e8
        have b9 : v7.toInt = (Int32.ofNat 3).toInt / 2 := by have h9 := vg_div e8 (by omega) (by omega); rw [z2] at h9; exact h9
        intro v10 e11
        have b12 := vg_add e11 (by omega) (by omega)
        exact ⟨rfl, ⟨100, v10, rfl, (by decide), (by omega), (by omega), rfl⟩, trivial⟩
      refine And.intro ?_ ?_
      ·
        intro s14 h13
        have h13 : s14 = s0 ∧ (101 ∈ ([100, 101, 102, 17] : List Nat)) := h13
        have q17 := h13.1.symm
        subst q17
        have q18 := h13.2
        refine And.intro (by omega) ?_
        intro v19 e20
        have b21 : v19.toInt = (Int32.ofNat 7).toInt / 2 := by have h9 := vg_div e20 (by omega) (by omega); rw [z2] at h9; exact h9
        intro v22 e23
        have b24 := vg_add e23 (by omega) (by omega)
        exact ⟨rfl, ⟨101, v22, rfl, (by decide), (by omega), (by omega), rfl⟩, trivial⟩
      refine And.intro ?_ ?_
      ·
        intro s26 h25
        have h25 : s26 = s0 ∧ (102 ∈ ([100, 101, 102, 17] : List Nat)) := h25
        have q29 := h25.1.symm
        subst q29
        have q30 := h25.2
        refine And.intro (by omega) ?_
        intro v31 e32
        have b33 : v31.toInt = (Int32.ofNat 11).toInt / 2 := by have h9 := vg_div e32 (by omega) (by omega); rw [z2] at h9; exact h9
        intro v34 e35
        have b36 := vg_add e35 (by omega) (by omega)
        exact ⟨rfl, ⟨102, v34, rfl, (by decide), (by omega), (by omega), rfl⟩, trivial⟩
      refine And.intro ?_ ?_
      ·
        intro s38 h37
        have h37 : s38 = s0 ∧ (17 ∈ ([100, 101, 102, 17] : List Nat)) := h37
        have q41 := h37.1.symm
        subst q41
        have q42 := h37.2
        refine And.intro (by omega) ?_
        intro v43 e44
        have b45 : v43.toInt = (Int32.ofNat 7).toInt / 2 := by have h9 := vg_div e44 (by omega) (by omega); rw [z2] at h9; exact h9
        intro v46 e47
        have b48 := vg_add e47 (by omega) (by omega)
        exact ⟨rfl, ⟨17, v46, rfl, (by decide), (by omega), (by omega), rfl⟩, trivial⟩
      exact trivial
    ·
      intro L s54 hL
      obtain ⟨p49, w51, rfl, h50, b52, b53, q57⟩ := hL
      have q57 := q57.symm
      subst q57
      simp only [List.mem_cons, List.not_mem_nil, or_false] at h50
      rcases h50 with rfl | rfl | rfl | rfl
      ·
        refine And.intro (fun c58 => ?_) (fun c58 => ?_)
        · have c58 : (Int32.ofNat 3).toInt ≤ w51.toInt := c58
          refine And.intro (by first | exact Or.inl rfl | exact Or.inr rfl | exact vg_01 (by omega) (by omega)) ?_
          show s0 = s0 ∧ (0 ≤ (Int32.ofInt 1).toInt ∧ (Int32.ofInt 1).toInt ≤ 1)
          exact ⟨rfl, (by first | trivial | omega | assumption)⟩
        · have c58 : ¬ ((Int32.ofNat 3).toInt ≤ w51.toInt) := c58
          refine And.intro ⟨by omega, by omega⟩ ?_
          intro v59 e60
          refine And.intro (fun c61 => ?_) (fun c61 => ?_)
          · have c61 : v59.toInt = 0 := c61
            intro v62 e63
            have b64 := vg_add e63 (by omega) (by omega)
            exact ⟨rfl, ⟨100, v62, rfl, (by decide), (by omega), (by omega), rfl⟩, (by show (13 - v62.toInt).toNat < (13 - w51.toInt).toNat; omega)⟩
          · have c61 : ¬ (v59.toInt = 0) := c61
            refine And.intro (by first | exact Or.inl rfl | exact Or.inr rfl | exact vg_01 (by omega) (by omega)) ?_
            show s0 = s0 ∧ (0 ≤ (Int32.ofInt 0).toInt ∧ (Int32.ofInt 0).toInt ≤ 1)
            exact ⟨rfl, (by first | trivial | omega | assumption)⟩
      ·
        refine And.intro (fun c65 => ?_) (fun c65 => ?_)
        · have c65 : (Int32.ofNat 7).toInt ≤ w51.toInt := c65
          refine And.intro (by first | exact Or.inl rfl | exact Or.inr rfl | exact vg_01 (by omega) (by omega)) ?_
          show s0 = s0 ∧ (0 ≤ (Int32.ofInt 1).toInt ∧ (Int32.ofInt 1).toInt ≤ 1)
          exact ⟨rfl, (by first | trivial | omega | assumption)⟩
        · have c65 : ¬ ((Int32.ofNat 7).toInt ≤ w51.toInt) := c65
          refine And.intro ⟨by omega, by omega⟩ ?_
          intro v66 e67
          refine And.intro (fun c68 => ?_) (fun c68 => ?_)
          · have c68 : v66.toInt = 0 := c68
            intro v69 e70
            have b71 := vg_add e70 (by omega) (by omega)
            exact ⟨rfl, ⟨101, v69, rfl, (by decide), (by omega), (by omega), rfl⟩, (by show (13 - v69.toInt).toNat < (13 - w51.toInt).toNat; omega)⟩
          · have c68 : ¬ (v66.toInt = 0) := c68
            refine And.intro (by first | exact Or.inl rfl | exact Or.inr rfl | exact vg_01 (by omega) (by omega)) ?_
            show s0 = s0 ∧ (0 ≤ (Int32.ofInt 0).toInt ∧ (Int32.ofInt 0).toInt ≤ 1)
            exact ⟨rfl, (by first | trivial | omega | assumption)⟩
      ·
        refine And.intro (fun c72 => ?_) (fun c72 => ?_)
        · have c72 : (Int32.ofNat 11).toInt ≤ w51.toInt := c72
          refine And.intro (by first | exact Or.inl rfl | exact Or.inr rfl | exact vg_01 (by omega) (by omega)) ?_
          show s0 = s0 ∧ (0 ≤ (Int32.ofInt 1).toInt ∧ (Int32.ofInt 1).toInt ≤ 1)
          exact ⟨rfl, (by first | trivial | omega | assumption)⟩
        · have c72 : ¬ ((Int32.ofNat 11).toInt ≤ w51.toInt) := c72
          refine And.intro ⟨by omega, by omega⟩ ?_
          intro v73 e74
          refine And.intro (fun c75 => ?_) (fun c75 => ?_)
          · have c75 : v73.toInt = 0 := c75
            intro v76 e77
            have b78 := vg_add e77 (by omega) (by omega)
            exact ⟨rfl, ⟨102, v76, rfl, (by decide), (by omega), (by omega), rfl⟩, (by show (13 - v76.toInt).toNat < (13 - w51.toInt).toNat; omega)⟩
          · have c75 : ¬ (v73.toInt = 0) := c75
            refine And.intro (by first | exact Or.inl rfl | exact Or.inr rfl | exact vg_01 (by omega) (by omega)) ?_
            show s0 = s0 ∧ (0 ≤ (Int32.ofInt 0).toInt ∧ (Int32.ofInt 0).toInt ≤ 1)
            exact ⟨rfl, (by first | trivial | omega | assumption)⟩
      ·
        refine And.intro (fun c79 => ?_) (fun c79 => ?_)
        · have c79 : (Int32.ofNat 7).toInt ≤ w51.toInt := c79
          refine And.intro (by first | exact Or.inl rfl | exact Or.inr rfl | exact vg_01 (by omega) (by omega)) ?_
          show s0 = s0 ∧ (0 ≤ (Int32.ofInt 1).toInt ∧ (Int32.ofInt 1).toInt ≤ 1)
          exact ⟨rfl, (by first | trivial | omega | assumption)⟩
        · have c79 : ¬ ((Int32.ofNat 7).toInt ≤ w51.toInt) := c79
          refine And.intro ⟨by omega, by omega⟩ ?_
          intro v80 e81
          refine And.intro (fun c82 => ?_) (fun c82 => ?_)
          · have c82 : v80.toInt = 0 := c82
            intro v83 e84
            have b85 := vg_add e84 (by omega) (by omega)
            exact ⟨rfl, ⟨17, v83, rfl, (by decide), (by omega), (by omega), rfl⟩, (by show (13 - v83.toInt).toNat < (13 - w51.toInt).toNat; omega)⟩
          · have c82 : ¬ (v80.toInt = 0) := c82
            refine And.intro (by first | exact Or.inl rfl | exact Or.inr rfl | exact vg_01 (by omega) (by omega)) ?_
            show s0 = s0 ∧ (0 ≤ (Int32.ofInt 0).toInt ∧ (Int32.ofInt 0).toInt ≤ 1)
            exact ⟨rfl, (by first | trivial | omega | assumption)⟩
def o_X8_manyOf : List vg_I := [(0, .aload_n 0, 1, 0, 0, 0, 0), (1, .iload_n 1, 1, 0, 0, 0, 0), (2, .invokevirtual 32, 3, 0, 8, 1, 587), (5, .astore_n 3, 1, 0, 0, 0, 0), (6, .iconst 0, 1, 0, 0, 0, 0), (7, .istore 4, 2, 0, 0, 0, 0), (9, .iconst 0, 1, 0, 0, 0, 0), (10, .istore 5, 2, 0, 0, 0, 0), (12, .iload 5, 2, 0, 0, 0, 0), (14, .iload_n 2, 1, 0, 0, 0, 0), (15, .if_icmp .ge 26, 3, 0, 0, 0, 0), (18, .iload 5, 2, 0, 0, 0, 0), (20, .aload_n 3, 1, 0, 0, 0, 0), (21, .arraylength, 1, 0, 0, 0, 0), (22, .if_icmp .ge 19, 3, 0, 0, 0, 0), (25, .aload_n 3, 1, 0, 0, 0, 0), (26, .iload 5, 2, 0, 0, 0, 0), (28, .iaload, 1, 0, 0, 0, 0), (29, .ifCond .eq 6, 3, 0, 0, 0, 0), (32, .iinc 4 1, 3, 0, 0, 0, 0), (35, .iinc 5 1, 3, 0, 0, 0, 0), (38, .goto (-26), 3, 0, 0, 0, 0), (41, .iload 4, 2, 0, 0, 0, 0), (43, .ireturn, 1, 0, 0, 0, 0)]
set_option maxRecDepth 100000 in
set_option maxHeartbeats 4000000 in
theorem c_X8_manyOf (l : Launch) (G : vg_G) (hp : vg_Hp G) : vg_Ct l G vg_sh r_X8_manyOf := by
  refine vg_meth hp vg_sh_ok r_X8_manyOf k_X8_manyOf rfl (fun h => by cases h) o_X8_manyOf [r_X8_rowOf] false (by decide +kernel) (by decide +kernel) ⟨_, _, rfl, rfl⟩ (List.forall_mem_cons.mpr ⟨⟨c_X8_rowOf l G hp, Nat.le_of_ble_eq_true rfl, Nat.le_of_ble_eq_true rfl⟩, fun _ h => absurd h List.not_mem_nil⟩) (fun h => by cases h) 600 ?_
  intro as s0 hpre
  obtain ⟨r, a1, a2, rfl, hr, i0⟩ := hpre
  simp only [List.mem_cons, List.not_mem_nil, or_false] at hr
  rcases hr with rfl
  ·
    have z0 : (Int32.ofInt 0).toInt = 0 := by decide
    have z1 : (Int32.ofInt 1).toInt = 1 := by decide
    have n3 : (Int32.ofNat 3).toInt = 3 := by decide
    have n7 : (Int32.ofNat 7).toInt = 7 := by decide
    have n11 : (Int32.ofNat 11).toInt = 11 := by decide
    refine ⟨Nat.le_of_ble_eq_true rfl, [(12, [false, false, true, true, true, true], (fun L t => ∃ (x3 : Nat) (x4 : Int32) (x5 : Int32), L = [none, none, some (.int a2), some (.ref x3), some (.int x4), some (.int x5)] ∧ x3 ∈ ([100, 101, 102, 17] : List Nat) ∧ (0 : Int) ≤ x5.toInt ∧ x5.toInt ≤ (11 : Int) ∧ t = s0), (fun L _ => (11 - (vg_li L 5).toInt).toNat))], ?_, List.forall_mem_cons.mpr ⟨?_, fun _ h => absurd h List.not_mem_nil⟩⟩
    ·
      refine And.intro (Nat.le_of_ble_eq_true rfl) (And.intro ⟨16, a1, rfl, by decide, i0⟩ ?_)
      refine And.intro ?_ ?_
      ·
        intro s2 h1
        have h1 : s2 = s0 ∧ (100 ∈ ([100, 101, 102, 17] : List Nat)) := h1
        have q5 := h1.1.symm
        subst q5
        have q6 := h1.2
        exact ⟨rfl, ⟨100, (Int32.ofInt 0), (Int32.ofInt 0), rfl, (by decide), (by omega), (by omega), rfl⟩, trivial⟩
      refine And.intro ?_ ?_
      ·
        intro s8 h7
        have h7 : s8 = s0 ∧ (101 ∈ ([100, 101, 102, 17] : List Nat)) := h7
        have q11 := h7.1.symm
        subst q11
        have q12 := h7.2
        exact ⟨rfl, ⟨101, (Int32.ofInt 0), (Int32.ofInt 0), rfl, (by decide), (by omega), (by omega), rfl⟩, trivial⟩
      refine And.intro ?_ ?_
      ·
        intro s14 h13
        have h13 : s14 = s0 ∧ (102 ∈ ([100, 101, 102, 17] : List Nat)) := h13
        have q17 := h13.1.symm
        subst q17
        have q18 := h13.2
        exact ⟨rfl, ⟨102, (Int32.ofInt 0), (Int32.ofInt 0), rfl, (by decide), (by omega), (by omega), rfl⟩, trivial⟩
      refine And.intro ?_ ?_
      ·
        intro s20 h19
        have h19 : s20 = s0 ∧ (17 ∈ ([100, 101, 102, 17] : List Nat)) := h19
        have q23 := h19.1.symm
        subst q23
        have q24 := h19.2
        exact ⟨rfl, ⟨17, (Int32.ofInt 0), (Int32.ofInt 0), rfl, (by decide), (by omega), (by omega), rfl⟩, trivial⟩
      exact trivial
    ·
      intro L s31 hL
      obtain ⟨p25, w27, w28, rfl, h26, b29, b30, q34⟩ := hL
      have q34 := q34.symm
      subst q34
      simp only [List.mem_cons, List.not_mem_nil, or_false] at h26
      rcases h26 with rfl | rfl | rfl | rfl
      ·
        refine And.intro (fun c35 => ?_) (fun c35 => ?_)
        · have c35 : a2.toInt ≤ w28.toInt := c35
          show s0 = s0 ∧ (True)
          exact ⟨rfl, (trivial)⟩
        · have c35 : ¬ (a2.toInt ≤ w28.toInt) := c35
          refine And.intro (fun c36 => ?_) (fun c36 => ?_)
          · have c36 : (Int32.ofNat 3).toInt ≤ w28.toInt := c36
            show s0 = s0 ∧ (True)
            exact ⟨rfl, (trivial)⟩
          · have c36 : ¬ ((Int32.ofNat 3).toInt ≤ w28.toInt) := c36
            refine And.intro ⟨by omega, by omega⟩ ?_
            intro v37 e38
            refine And.intro (fun c39 => ?_) (fun c39 => ?_)
            · have c39 : v37.toInt = 0 := c39
              intro v40 e41
              have b42 := vg_add e41 (by omega) (by omega)
              exact ⟨rfl, ⟨100, w27, v40, rfl, (by decide), (by omega), (by omega), rfl⟩, (by show (11 - v40.toInt).toNat < (11 - w28.toInt).toNat; omega)⟩
            · have c39 : ¬ (v37.toInt = 0) := c39
              intro v43 e44
              intro v45 e46
              have b47 := vg_add e46 (by omega) (by omega)
              exact ⟨rfl, ⟨100, v43, v45, rfl, (by decide), (by omega), (by omega), rfl⟩, (by show (11 - v45.toInt).toNat < (11 - w28.toInt).toNat; omega)⟩
      ·
        refine And.intro (fun c48 => ?_) (fun c48 => ?_)
        · have c48 : a2.toInt ≤ w28.toInt := c48
          show s0 = s0 ∧ (True)
          exact ⟨rfl, (trivial)⟩
        · have c48 : ¬ (a2.toInt ≤ w28.toInt) := c48
          refine And.intro (fun c49 => ?_) (fun c49 => ?_)
          · have c49 : (Int32.ofNat 7).toInt ≤ w28.toInt := c49
            show s0 = s0 ∧ (True)
            exact ⟨rfl, (trivial)⟩
          · have c49 : ¬ ((Int32.ofNat 7).toInt ≤ w28.toInt) := c49
            refine And.intro ⟨by omega, by omega⟩ ?_
            intro v50 e51
            refine And.intro (fun c52 => ?_) (fun c52 => ?_)
            · have c52 : v50.toInt = 0 := c52
              intro v53 e54
              have b55 := vg_add e54 (by omega) (by omega)
              exact ⟨rfl, ⟨101, w27, v53, rfl, (by decide), (by omega), (by omega), rfl⟩, (by show (11 - v53.toInt).toNat < (11 - w28.toInt).toNat; omega)⟩
            · have c52 : ¬ (v50.toInt = 0) := c52
              intro v56 e57
              intro v58 e59
              have b60 := vg_add e59 (by omega) (by omega)
              exact ⟨rfl, ⟨101, v56, v58, rfl, (by decide), (by omega), (by omega), rfl⟩, (by show (11 - v58.toInt).toNat < (11 - w28.toInt).toNat; omega)⟩
      ·
        refine And.intro (fun c61 => ?_) (fun c61 => ?_)
        · have c61 : a2.toInt ≤ w28.toInt := c61
          show s0 = s0 ∧ (True)
          exact ⟨rfl, (trivial)⟩
        · have c61 : ¬ (a2.toInt ≤ w28.toInt) := c61
          refine And.intro (fun c62 => ?_) (fun c62 => ?_)
          · have c62 : (Int32.ofNat 11).toInt ≤ w28.toInt := c62
            show s0 = s0 ∧ (True)
            exact ⟨rfl, (trivial)⟩
          · have c62 : ¬ ((Int32.ofNat 11).toInt ≤ w28.toInt) := c62
            refine And.intro ⟨by omega, by omega⟩ ?_
            intro v63 e64
            refine And.intro (fun c65 => ?_) (fun c65 => ?_)
            · have c65 : v63.toInt = 0 := c65
              intro v66 e67
              have b68 := vg_add e67 (by omega) (by omega)
              exact ⟨rfl, ⟨102, w27, v66, rfl, (by decide), (by omega), (by omega), rfl⟩, (by show (11 - v66.toInt).toNat < (11 - w28.toInt).toNat; omega)⟩
            · have c65 : ¬ (v63.toInt = 0) := c65
              intro v69 e70
              intro v71 e72
              have b73 := vg_add e72 (by omega) (by omega)
              exact ⟨rfl, ⟨102, v69, v71, rfl, (by decide), (by omega), (by omega), rfl⟩, (by show (11 - v71.toInt).toNat < (11 - w28.toInt).toNat; omega)⟩
      ·
        refine And.intro (fun c74 => ?_) (fun c74 => ?_)
        · have c74 : a2.toInt ≤ w28.toInt := c74
          show s0 = s0 ∧ (True)
          exact ⟨rfl, (trivial)⟩
        · have c74 : ¬ (a2.toInt ≤ w28.toInt) := c74
          refine And.intro (fun c75 => ?_) (fun c75 => ?_)
          · have c75 : (Int32.ofNat 7).toInt ≤ w28.toInt := c75
            show s0 = s0 ∧ (True)
            exact ⟨rfl, (trivial)⟩
          · have c75 : ¬ ((Int32.ofNat 7).toInt ≤ w28.toInt) := c75
            refine And.intro ⟨by omega, by omega⟩ ?_
            intro v76 e77
            refine And.intro (fun c78 => ?_) (fun c78 => ?_)
            · have c78 : v76.toInt = 0 := c78
              intro v79 e80
              have b81 := vg_add e80 (by omega) (by omega)
              exact ⟨rfl, ⟨17, w27, v79, rfl, (by decide), (by omega), (by omega), rfl⟩, (by show (11 - v79.toInt).toNat < (11 - w28.toInt).toNat; omega)⟩
            · have c78 : ¬ (v76.toInt = 0) := c78
              intro v82 e83
              intro v84 e85
              have b86 := vg_add e85 (by omega) (by omega)
              exact ⟨rfl, ⟨17, v82, v84, rfl, (by decide), (by omega), (by omega), rfl⟩, (by show (11 - v84.toInt).toNat < (11 - w28.toInt).toNat; omega)⟩
def o_X8_plainOf : List vg_I := [(0, .aload_n 0, 1, 0, 0, 0, 0), (1, .iload_n 1, 1, 0, 0, 0, 0), (2, .aload_n 0, 1, 0, 0, 0, 0), (3, .iload_n 1, 1, 0, 0, 0, 0), (4, .invokevirtual 32, 3, 0, 8, 1, 587), (7, .arraylength, 1, 0, 0, 0, 0), (8, .invokevirtual 36, 3, 1, 8, 2, 880), (11, .ireturn, 1, 0, 0, 0, 0)]
set_option maxRecDepth 100000 in
set_option maxHeartbeats 4000000 in
theorem c_X8_plainOf (l : Launch) (G : vg_G) (hp : vg_Hp G) : vg_Ct l G vg_sh r_X8_plainOf := by
  refine vg_meth hp vg_sh_ok r_X8_plainOf k_X8_plainOf rfl (fun h => by cases h) o_X8_plainOf [r_X8_rowOf, r_X8_manyOf] false (by decide +kernel) (by decide +kernel) ⟨_, _, rfl, rfl⟩ (List.forall_mem_cons.mpr ⟨⟨c_X8_rowOf l G hp, Nat.le_of_ble_eq_true rfl, Nat.le_of_ble_eq_true rfl⟩, List.forall_mem_cons.mpr ⟨⟨c_X8_manyOf l G hp, Nat.le_of_ble_eq_true rfl, Nat.le_of_ble_eq_true rfl⟩, fun _ h => absurd h List.not_mem_nil⟩⟩) (fun h => by cases h) 600 ?_
  intro as s0 hpre
  obtain ⟨r, a1, rfl, hr, i0⟩ := hpre
  simp only [List.mem_cons, List.not_mem_nil, or_false] at hr
  rcases hr with rfl
  ·
    have n3 : (Int32.ofNat 3).toInt = 3 := by decide
    have n7 : (Int32.ofNat 7).toInt = 7 := by decide
    have n11 : (Int32.ofNat 11).toInt = 11 := by decide
    refine ⟨Nat.le_of_ble_eq_true rfl, [], ?_, fun _ h => absurd h List.not_mem_nil⟩
    ·
      refine And.intro (Nat.le_of_ble_eq_true rfl) (And.intro ⟨16, a1, rfl, by decide, i0⟩ ?_)
      refine And.intro ?_ ?_
      ·
        intro s2 h1
        have h1 : s2 = s0 ∧ (100 ∈ ([100, 101, 102, 17] : List Nat)) := h1
        have q5 := h1.1.symm
        subst q5
        have q6 := h1.2
        refine And.intro (Nat.le_of_ble_eq_true rfl) (And.intro ⟨16, a1, (Int32.ofNat 3), rfl, by decide, i0⟩ ?_)
        intro v7 s9 h8
        have h8 : s9 = s0 ∧ (True) := h8
        have q12 := h8.1.symm
        subst q12
        show s0 = s0 ∧ (True)
        exact ⟨rfl, (trivial)⟩
      refine And.intro ?_ ?_
      ·
        intro s14 h13
        have h13 : s14 = s0 ∧ (101 ∈ ([100, 101, 102, 17] : List Nat)) := h13
        have q17 := h13.1.symm
        subst q17
        have q18 := h13.2
        refine And.intro (Nat.le_of_ble_eq_true rfl) (And.intro ⟨16, a1, (Int32.ofNat 7), rfl, by decide, i0⟩ ?_)
        intro v19 s21 h20
        have h20 : s21 = s0 ∧ (True) := h20
        have q24 := h20.1.symm
        subst q24
        show s0 = s0 ∧ (True)
        exact ⟨rfl, (trivial)⟩
      refine And.intro ?_ ?_
      ·
        intro s26 h25
        have h25 : s26 = s0 ∧ (102 ∈ ([100, 101, 102, 17] : List Nat)) := h25
        have q29 := h25.1.symm
        subst q29
        have q30 := h25.2
        refine And.intro (Nat.le_of_ble_eq_true rfl) (And.intro ⟨16, a1, (Int32.ofNat 11), rfl, by decide, i0⟩ ?_)
        intro v31 s33 h32
        have h32 : s33 = s0 ∧ (True) := h32
        have q36 := h32.1.symm
        subst q36
        show s0 = s0 ∧ (True)
        exact ⟨rfl, (trivial)⟩
      refine And.intro ?_ ?_
      ·
        intro s38 h37
        have h37 : s38 = s0 ∧ (17 ∈ ([100, 101, 102, 17] : List Nat)) := h37
        have q41 := h37.1.symm
        subst q41
        have q42 := h37.2
        refine And.intro (Nat.le_of_ble_eq_true rfl) (And.intro ⟨16, a1, (Int32.ofNat 7), rfl, by decide, i0⟩ ?_)
        intro v43 s45 h44
        have h44 : s45 = s0 ∧ (True) := h44
        have q48 := h44.1.symm
        subst q48
        show s0 = s0 ∧ (True)
        exact ⟨rfl, (trivial)⟩
      exact trivial
def o_X8_foldedOf : List vg_I := [(0, .aload_n 0, 1, 0, 0, 0, 0), (1, .iload_n 1, 1, 0, 0, 0, 0), (2, .aload_n 0, 1, 0, 0, 0, 0), (3, .iload_n 1, 1, 0, 0, 0, 0), (4, .invokevirtual 32, 3, 0, 8, 1, 587), (7, .arraylength, 1, 0, 0, 0, 0), (8, .iconst 2, 1, 0, 0, 0, 0), (9, .idiv, 1, 0, 0, 0, 0), (10, .iconst 1, 1, 0, 0, 0, 0), (11, .iadd, 1, 0, 0, 0, 0), (12, .invokevirtual 36, 3, 1, 8, 2, 880), (15, .ireturn, 1, 0, 0, 0, 0)]
set_option maxRecDepth 100000 in
set_option maxHeartbeats 4000000 in
theorem c_X8_foldedOf (l : Launch) (G : vg_G) (hp : vg_Hp G) : vg_Ct l G vg_sh r_X8_foldedOf := by
  refine vg_meth hp vg_sh_ok r_X8_foldedOf k_X8_foldedOf rfl (fun h => by cases h) o_X8_foldedOf [r_X8_rowOf, r_X8_manyOf] false (by decide +kernel) (by decide +kernel) ⟨_, _, rfl, rfl⟩ (List.forall_mem_cons.mpr ⟨⟨c_X8_rowOf l G hp, Nat.le_of_ble_eq_true rfl, Nat.le_of_ble_eq_true rfl⟩, List.forall_mem_cons.mpr ⟨⟨c_X8_manyOf l G hp, Nat.le_of_ble_eq_true rfl, Nat.le_of_ble_eq_true rfl⟩, fun _ h => absurd h List.not_mem_nil⟩⟩) (fun h => by cases h) 600 ?_
  intro as s0 hpre
  obtain ⟨r, a1, rfl, hr, i0⟩ := hpre
  simp only [List.mem_cons, List.not_mem_nil, or_false] at hr
  rcases hr with rfl
  ·
    have z1 : (Int32.ofInt 1).toInt = 1 := by decide
    have z2 : (Int32.ofInt 2).toInt = 2 := by decide
    have n3 : (Int32.ofNat 3).toInt = 3 := by decide
    have n7 : (Int32.ofNat 7).toInt = 7 := by decide
    have n11 : (Int32.ofNat 11).toInt = 11 := by decide
    refine ⟨Nat.le_of_ble_eq_true rfl, [], ?_, fun _ h => absurd h List.not_mem_nil⟩
    ·
      refine And.intro (Nat.le_of_ble_eq_true rfl) (And.intro ⟨16, a1, rfl, by decide, i0⟩ ?_)
      refine And.intro ?_ ?_
      ·
        intro s2 h1
        have h1 : s2 = s0 ∧ (100 ∈ ([100, 101, 102, 17] : List Nat)) := h1
        have q5 := h1.1.symm
        subst q5
        have q6 := h1.2
        refine And.intro (by omega) ?_
        intro v7 e8
        have b9 : v7.toInt = (Int32.ofNat 3).toInt / 2 := by have h9 := vg_div e8 (by omega) (by omega); rw [z2] at h9; exact h9
        intro v10 e11
        have b12 := vg_add e11 (by omega) (by omega)
        refine And.intro (Nat.le_of_ble_eq_true rfl) (And.intro ⟨16, a1, v10, rfl, by decide, i0⟩ ?_)
        intro v13 s15 h14
        have h14 : s15 = s0 ∧ (True) := h14
        have q18 := h14.1.symm
        subst q18
        show s0 = s0 ∧ (True)
        exact ⟨rfl, (trivial)⟩
      refine And.intro ?_ ?_
      ·
        intro s20 h19
        have h19 : s20 = s0 ∧ (101 ∈ ([100, 101, 102, 17] : List Nat)) := h19
        have q23 := h19.1.symm
        subst q23
        have q24 := h19.2
        refine And.intro (by omega) ?_
        intro v25 e26
        have b27 : v25.toInt = (Int32.ofNat 7).toInt / 2 := by have h9 := vg_div e26 (by omega) (by omega); rw [z2] at h9; exact h9
        intro v28 e29
        have b30 := vg_add e29 (by omega) (by omega)
        refine And.intro (Nat.le_of_ble_eq_true rfl) (And.intro ⟨16, a1, v28, rfl, by decide, i0⟩ ?_)
        intro v31 s33 h32
        have h32 : s33 = s0 ∧ (True) := h32
        have q36 := h32.1.symm
        subst q36
        show s0 = s0 ∧ (True)
        exact ⟨rfl, (trivial)⟩
      refine And.intro ?_ ?_
      ·
        intro s38 h37
        have h37 : s38 = s0 ∧ (102 ∈ ([100, 101, 102, 17] : List Nat)) := h37
        have q41 := h37.1.symm
        subst q41
        have q42 := h37.2
        refine And.intro (by omega) ?_
        intro v43 e44
        have b45 : v43.toInt = (Int32.ofNat 11).toInt / 2 := by have h9 := vg_div e44 (by omega) (by omega); rw [z2] at h9; exact h9
        intro v46 e47
        have b48 := vg_add e47 (by omega) (by omega)
        refine And.intro (Nat.le_of_ble_eq_true rfl) (And.intro ⟨16, a1, v46, rfl, by decide, i0⟩ ?_)
        intro v49 s51 h50
        have h50 : s51 = s0 ∧ (True) := h50
        have q54 := h50.1.symm
        subst q54
        show s0 = s0 ∧ (True)
        exact ⟨rfl, (trivial)⟩
      refine And.intro ?_ ?_
      ·
        intro s56 h55
        have h55 : s56 = s0 ∧ (17 ∈ ([100, 101, 102, 17] : List Nat)) := h55
        have q59 := h55.1.symm
        subst q59
        have q60 := h55.2
        refine And.intro (by omega) ?_
        intro v61 e62
        have b63 : v61.toInt = (Int32.ofNat 7).toInt / 2 := by have h9 := vg_div e62 (by omega) (by omega); rw [z2] at h9; exact h9
        intro v64 e65
        have b66 := vg_add e65 (by omega) (by omega)
        refine And.intro (Nat.le_of_ble_eq_true rfl) (And.intro ⟨16, a1, v64, rfl, by decide, i0⟩ ?_)
        intro v67 s69 h68
        have h68 : s69 = s0 ∧ (True) := h68
        have q72 := h68.1.symm
        subst q72
        show s0 = s0 ∧ (True)
        exact ⟨rfl, (trivial)⟩
      exact trivial
end
section
def o_X4_clear : List vg_I := [(0, .aload_n 0, 1, 0, 0, 0, 0), (1, .iconst 0, 1, 0, 0, 0, 0), (2, .putfield 13, 3, 414, 4, 2, 0), (5, .aload_n 0, 1, 0, 0, 0, 0), (6, .iconst 0, 1, 0, 0, 0, 0), (7, .putfield 17, 3, 416, 4, 3, 0), (10, .return_, 1, 0, 0, 0, 0)]
set_option maxRecDepth 100000 in
set_option maxHeartbeats 4000000 in
theorem c_X4_clear (l : Launch) (G : vg_G) (hp : vg_Hp G) : vg_Ct l G vg_sh r_X4_clear := by
  refine vg_meth hp vg_sh_ok r_X4_clear k_X4_clear rfl (fun h => by cases h) o_X4_clear [] false (by decide +kernel) (by decide +kernel) ⟨_, _, rfl, rfl⟩ (fun _ h => absurd h List.not_mem_nil) (fun h => by cases h) 600 ?_
  intro as s0 hpre
  obtain ⟨r, rfl, hr, i0⟩ := hpre
  simp only [List.mem_cons, List.not_mem_nil, or_false] at hr
  rcases hr with rfl | rfl | rfl | rfl | rfl | rfl | rfl
  ·
    have z0 : (Int32.ofInt 0).toInt = 0 := by decide
    refine ⟨Nat.le_of_ble_eq_true rfl, [], ?_, fun _ h => absurd h List.not_mem_nil⟩
    ·
      intro s1 e2
      have i3 : Iv s1 := Iv.c1 (lo := 0) (hi := 48) i0 e2 rfl (by omega) (by omega)
      have k4 : Kp s0 s1 := Kx.u1 Kx.rf e2 rfl
      intro s5 e6
      have i7 : Iv s5 := Iv.u1 i3 e6 rfl
      have k8 : Kp s0 s5 := Kx.u1 k4 e6 rfl
      show Iv s5 ∧ Kp s0 s5 ∧ (True)
      exact ⟨i7, k8, (trivial)⟩
  ·
    have z0 : (Int32.ofInt 0).toInt = 0 := by decide
    refine ⟨Nat.le_of_ble_eq_true rfl, [], ?_, fun _ h => absurd h List.not_mem_nil⟩
    ·
      intro s1 e2
      have i3 : Iv s1 := Iv.c1 (lo := 0) (hi := 48) i0 e2 rfl (by omega) (by omega)
      have k4 : Kp s0 s1 := Kx.u1 Kx.rf e2 rfl
      intro s5 e6
      have i7 : Iv s5 := Iv.u1 i3 e6 rfl
      have k8 : Kp s0 s5 := Kx.u1 k4 e6 rfl
      show Iv s5 ∧ Kp s0 s5 ∧ (True)
      exact ⟨i7, k8, (trivial)⟩
  ·
    have z0 : (Int32.ofInt 0).toInt = 0 := by decide
    refine ⟨Nat.le_of_ble_eq_true rfl, [], ?_, fun _ h => absurd h List.not_mem_nil⟩
    ·
      intro s1 e2
      have i3 : Iv s1 := Iv.c1 (lo := 0) (hi := 48) i0 e2 rfl (by omega) (by omega)
      have k4 : Kp s0 s1 := Kx.u1 Kx.rf e2 rfl
      intro s5 e6
      have i7 : Iv s5 := Iv.u1 i3 e6 rfl
      have k8 : Kp s0 s5 := Kx.u1 k4 e6 rfl
      show Iv s5 ∧ Kp s0 s5 ∧ (True)
      exact ⟨i7, k8, (trivial)⟩
  ·
    have z0 : (Int32.ofInt 0).toInt = 0 := by decide
    refine ⟨Nat.le_of_ble_eq_true rfl, [], ?_, fun _ h => absurd h List.not_mem_nil⟩
    ·
      intro s1 e2
      have i3 : Iv s1 := Iv.c1 (lo := 0) (hi := 48) i0 e2 rfl (by omega) (by omega)
      have k4 : Kp s0 s1 := Kx.u1 Kx.rf e2 rfl
      intro s5 e6
      have i7 : Iv s5 := Iv.u1 i3 e6 rfl
      have k8 : Kp s0 s5 := Kx.u1 k4 e6 rfl
      show Iv s5 ∧ Kp s0 s5 ∧ (True)
      exact ⟨i7, k8, (trivial)⟩
  ·
    have z0 : (Int32.ofInt 0).toInt = 0 := by decide
    refine ⟨Nat.le_of_ble_eq_true rfl, [], ?_, fun _ h => absurd h List.not_mem_nil⟩
    ·
      intro s1 e2
      have i3 : Iv s1 := Iv.c1 (lo := 0) (hi := 48) i0 e2 rfl (by omega) (by omega)
      have k4 : Kp s0 s1 := Kx.u1 Kx.rf e2 rfl
      intro s5 e6
      have i7 : Iv s5 := Iv.u1 i3 e6 rfl
      have k8 : Kp s0 s5 := Kx.u1 k4 e6 rfl
      show Iv s5 ∧ Kp s0 s5 ∧ (True)
      exact ⟨i7, k8, (trivial)⟩
  ·
    have z0 : (Int32.ofInt 0).toInt = 0 := by decide
    refine ⟨Nat.le_of_ble_eq_true rfl, [], ?_, fun _ h => absurd h List.not_mem_nil⟩
    ·
      intro s1 e2
      have i3 : Iv s1 := Iv.c1 (lo := 0) (hi := 48) i0 e2 rfl (by omega) (by omega)
      have k4 : Kp s0 s1 := Kx.u1 Kx.rf e2 rfl
      intro s5 e6
      have i7 : Iv s5 := Iv.u1 i3 e6 rfl
      have k8 : Kp s0 s5 := Kx.u1 k4 e6 rfl
      show Iv s5 ∧ Kp s0 s5 ∧ (True)
      exact ⟨i7, k8, (trivial)⟩
  ·
    have z0 : (Int32.ofInt 0).toInt = 0 := by decide
    refine ⟨Nat.le_of_ble_eq_true rfl, [], ?_, fun _ h => absurd h List.not_mem_nil⟩
    ·
      intro s1 e2
      have i3 : Iv s1 := Iv.c1 (lo := 0) (hi := 48) i0 e2 rfl (by omega) (by omega)
      have k4 : Kp s0 s1 := Kx.u1 Kx.rf e2 rfl
      intro s5 e6
      have i7 : Iv s5 := Iv.u1 i3 e6 rfl
      have k8 : Kp s0 s5 := Kx.u1 k4 e6 rfl
      show Iv s5 ∧ Kp s0 s5 ∧ (True)
      exact ⟨i7, k8, (trivial)⟩
def o_X4_put : List vg_I := [(0, .aload_n 0, 1, 0, 0, 0, 0), (1, .aload_n 0, 1, 0, 0, 0, 0), (2, .getfield 20, 3, 413, 4, 1, 0), (5, .iconst 1, 1, 0, 0, 0, 0), (6, .iadd, 1, 0, 0, 0, 0), (7, .bipush 63, 2, 0, 0, 0, 0), (9, .iand, 1, 0, 0, 0, 0), (10, .putfield 20, 3, 413, 4, 1, 0), (13, .aload_n 0, 1, 0, 0, 0, 0), (14, .getfield 9, 3, 412, 4, 0, 0), (17, .aload_n 0, 1, 0, 0, 0, 0), (18, .getfield 20, 3, 413, 4, 1, 0), (21, .iload_n 1, 1, 0, 0, 0, 0), (22, .iastore, 1, 0, 0, 0, 0), (23, .aload_n 0, 1, 0, 0, 0, 0), (24, .bipush 48, 2, 0, 0, 0, 0), (26, .aload_n 0, 1, 0, 0, 0, 0), (27, .getfield 13, 3, 414, 4, 2, 0), (30, .iconst 1, 1, 0, 0, 0, 0), (31, .iadd, 1, 0, 0, 0, 0), (32, .invokestatic 23, 3, 0, 1, 2, 638), (35, .putfield 13, 3, 414, 4, 2, 0), (38, .aload_n 0, 1, 0, 0, 0, 0), (39, .dup, 1, 0, 0, 0, 0), (40, .getfield 17, 3, 416, 4, 3, 0), (43, .iconst 1, 1, 0, 0, 0, 0), (44, .iadd, 1, 0, 0, 0, 0), (45, .putfield 17, 3, 416, 4, 3, 0), (48, .return_, 1, 0, 0, 0, 0)]
set_option maxRecDepth 100000 in
set_option maxHeartbeats 4000000 in
theorem c_X4_put (l : Launch) (G : vg_G) (hp : vg_Hp G) : vg_Ct l G vg_sh r_X4_put := by
  refine vg_meth hp vg_sh_ok r_X4_put k_X4_put rfl (fun h => by cases h) o_X4_put [r_J9_min_7cf53] false (by decide +kernel) (by decide +kernel) ⟨_, _, rfl, rfl⟩ (List.forall_mem_cons.mpr ⟨⟨c_J9_min_7cf53 l G hp, Nat.le_of_ble_eq_true rfl, Nat.le_of_ble_eq_true rfl⟩, fun _ h => absurd h List.not_mem_nil⟩) (fun h => by cases h) 600 ?_
  intro as s0 hpre
  obtain ⟨r, a1, rfl, hr, i0⟩ := hpre
  simp only [List.mem_cons, List.not_mem_nil, or_false] at hr
  rcases hr with rfl | rfl | rfl | rfl | rfl | rfl | rfl
  ·
    have z1 : (Int32.ofInt 1).toInt = 1 := by decide
    have z48 : (Int32.ofInt 48).toInt = 48 := by decide
    have z63 : (Int32.ofInt 63).toInt = 63 := by decide
    refine ⟨Nat.le_of_ble_eq_true rfl, [], ?_, fun _ h => absurd h List.not_mem_nil⟩
    ·
      intro v1 e2
      have g3 : s0.1 41 1 = v1 := by rw [e2]
      intro v4 e5
      intro v6 e7
      have b8 := vg_and e7 (by omega)
      intro s9 e10
      have i11 : Iv s9 := Iv.u1 i0 e10 rfl
      have k12 : Kp s0 s9 := Kx.u1 Kx.rf e10 rfl
      intro v13 e14
      have w15 : v6 = v13 := by rw [e14, e10]; exact vg_u1_self.symm
      subst w15
      refine And.intro ⟨by omega, by omega⟩ ?_
      intro s16 e17
      have i18 : Iv s16 := Iv.a1 i11 e17 rfl
      have k19 : Kp s0 s16 := Kx.u1 k12 e17 rfl
      intro v20 e21
      have g22 : s0.1 41 2 = v20 := by rw [e21, e17, vg_u1_ne (a := 41) (k := 42) (by decide), e10, vg_u1_at (a := 41) (b := 2) (k := 41) (i := 1) (by decide)]
      have b23 : (0 : Int) ≤ v20.toInt ∧ v20.toInt ≤ 48 := by rw [e21]; exact Iv_41_2 i18
      intro v24 e25
      have b26 := vg_add e25 (by omega) (by omega)
      refine And.intro (Nat.le_of_ble_eq_true rfl) (And.intro ⟨(Int32.ofInt 48), v24, rfl, trivial⟩ ?_)
      intro v27 s29 h28
      have h28 : s29 = s16 ∧ (v27.toInt ≤ (Int32.ofInt 48).toInt ∧ v27.toInt ≤ v24.toInt ∧ (v27.toInt = (Int32.ofInt 48).toInt ∨ v27.toInt = v24.toInt)) := h28
      have q32 := h28.1.symm
      subst q32
      have q33 := h28.2
      intro s34 e35
      have i36 : Iv s34 := Iv.c1 (lo := 0) (hi := 48) i18 e35 rfl (by omega) (by omega)
      have k37 : Kp s0 s34 := Kx.u1 k19 e35 rfl
      intro v38 e39
      have g40 : s0.1 41 3 = v38 := by rw [e39, e35, vg_u1_at (a := 41) (b := 3) (k := 41) (i := 2) (by decide), e17, vg_u1_ne (a := 41) (k := 42) (by decide), e10, vg_u1_at (a := 41) (b := 3) (k := 41) (i := 1) (by decide)]
      intro v41 e42
      intro s43 e44
      have i45 : Iv s43 := Iv.u1 i36 e44 rfl
      have k46 : Kp s0 s43 := Kx.u1 k37 e44 rfl
      show Iv s43 ∧ Kp s0 s43 ∧ (True)
      exact ⟨i45, k46, (trivial)⟩
  ·
    have z1 : (Int32.ofInt 1).toInt = 1 := by decide
    have z48 : (Int32.ofInt 48).toInt = 48 := by decide
    have z63 : (Int32.ofInt 63).toInt = 63 := by decide
    refine ⟨Nat.le_of_ble_eq_true rfl, [], ?_, fun _ h => absurd h List.not_mem_nil⟩
    ·
      intro v1 e2
      have g3 : s0.1 43 1 = v1 := by rw [e2]
      intro v4 e5
      intro v6 e7
      have b8 := vg_and e7 (by omega)
      intro s9 e10
      have i11 : Iv s9 := Iv.u1 i0 e10 rfl
      have k12 : Kp s0 s9 := Kx.u1 Kx.rf e10 rfl
      intro v13 e14
      have w15 : v6 = v13 := by rw [e14, e10]; exact vg_u1_self.symm
      subst w15
      refine And.intro ⟨by omega, by omega⟩ ?_
      intro s16 e17
      have i18 : Iv s16 := Iv.a1 i11 e17 rfl
      have k19 : Kp s0 s16 := Kx.u1 k12 e17 rfl
      intro v20 e21
      have g22 : s0.1 43 2 = v20 := by rw [e21, e17, vg_u1_ne (a := 43) (k := 44) (by decide), e10, vg_u1_at (a := 43) (b := 2) (k := 43) (i := 1) (by decide)]
      have b23 : (0 : Int) ≤ v20.toInt ∧ v20.toInt ≤ 48 := by rw [e21]; exact Iv_43_2 i18
      intro v24 e25
      have b26 := vg_add e25 (by omega) (by omega)
      refine And.intro (Nat.le_of_ble_eq_true rfl) (And.intro ⟨(Int32.ofInt 48), v24, rfl, trivial⟩ ?_)
      intro v27 s29 h28
      have h28 : s29 = s16 ∧ (v27.toInt ≤ (Int32.ofInt 48).toInt ∧ v27.toInt ≤ v24.toInt ∧ (v27.toInt = (Int32.ofInt 48).toInt ∨ v27.toInt = v24.toInt)) := h28
      have q32 := h28.1.symm
      subst q32
      have q33 := h28.2
      intro s34 e35
      have i36 : Iv s34 := Iv.c1 (lo := 0) (hi := 48) i18 e35 rfl (by omega) (by omega)
      have k37 : Kp s0 s34 := Kx.u1 k19 e35 rfl
      intro v38 e39
      have g40 : s0.1 43 3 = v38 := by rw [e39, e35, vg_u1_at (a := 43) (b := 3) (k := 43) (i := 2) (by decide), e17, vg_u1_ne (a := 43) (k := 44) (by decide), e10, vg_u1_at (a := 43) (b := 3) (k := 43) (i := 1) (by decide)]
      intro v41 e42
      intro s43 e44
      have i45 : Iv s43 := Iv.u1 i36 e44 rfl
      have k46 : Kp s0 s43 := Kx.u1 k37 e44 rfl
      show Iv s43 ∧ Kp s0 s43 ∧ (True)
      exact ⟨i45, k46, (trivial)⟩
  ·
    have z1 : (Int32.ofInt 1).toInt = 1 := by decide
    have z48 : (Int32.ofInt 48).toInt = 48 := by decide
    have z63 : (Int32.ofInt 63).toInt = 63 := by decide
    refine ⟨Nat.le_of_ble_eq_true rfl, [], ?_, fun _ h => absurd h List.not_mem_nil⟩
    ·
      intro v1 e2
      have g3 : s0.1 45 1 = v1 := by rw [e2]
      intro v4 e5
      intro v6 e7
      have b8 := vg_and e7 (by omega)
      intro s9 e10
      have i11 : Iv s9 := Iv.u1 i0 e10 rfl
      have k12 : Kp s0 s9 := Kx.u1 Kx.rf e10 rfl
      intro v13 e14
      have w15 : v6 = v13 := by rw [e14, e10]; exact vg_u1_self.symm
      subst w15
      refine And.intro ⟨by omega, by omega⟩ ?_
      intro s16 e17
      have i18 : Iv s16 := Iv.a1 i11 e17 rfl
      have k19 : Kp s0 s16 := Kx.u1 k12 e17 rfl
      intro v20 e21
      have g22 : s0.1 45 2 = v20 := by rw [e21, e17, vg_u1_ne (a := 45) (k := 46) (by decide), e10, vg_u1_at (a := 45) (b := 2) (k := 45) (i := 1) (by decide)]
      have b23 : (0 : Int) ≤ v20.toInt ∧ v20.toInt ≤ 48 := by rw [e21]; exact Iv_45_2 i18
      intro v24 e25
      have b26 := vg_add e25 (by omega) (by omega)
      refine And.intro (Nat.le_of_ble_eq_true rfl) (And.intro ⟨(Int32.ofInt 48), v24, rfl, trivial⟩ ?_)
      intro v27 s29 h28
      have h28 : s29 = s16 ∧ (v27.toInt ≤ (Int32.ofInt 48).toInt ∧ v27.toInt ≤ v24.toInt ∧ (v27.toInt = (Int32.ofInt 48).toInt ∨ v27.toInt = v24.toInt)) := h28
      have q32 := h28.1.symm
      subst q32
      have q33 := h28.2
      intro s34 e35
      have i36 : Iv s34 := Iv.c1 (lo := 0) (hi := 48) i18 e35 rfl (by omega) (by omega)
      have k37 : Kp s0 s34 := Kx.u1 k19 e35 rfl
      intro v38 e39
      have g40 : s0.1 45 3 = v38 := by rw [e39, e35, vg_u1_at (a := 45) (b := 3) (k := 45) (i := 2) (by decide), e17, vg_u1_ne (a := 45) (k := 46) (by decide), e10, vg_u1_at (a := 45) (b := 3) (k := 45) (i := 1) (by decide)]
      intro v41 e42
      intro s43 e44
      have i45 : Iv s43 := Iv.u1 i36 e44 rfl
      have k46 : Kp s0 s43 := Kx.u1 k37 e44 rfl
      show Iv s43 ∧ Kp s0 s43 ∧ (True)
      exact ⟨i45, k46, (trivial)⟩
  ·
    have z1 : (Int32.ofInt 1).toInt = 1 := by decide
    have z48 : (Int32.ofInt 48).toInt = 48 := by decide
    have z63 : (Int32.ofInt 63).toInt = 63 := by decide
    refine ⟨Nat.le_of_ble_eq_true rfl, [], ?_, fun _ h => absurd h List.not_mem_nil⟩
    ·
      intro v1 e2
      have g3 : s0.1 47 1 = v1 := by rw [e2]
      intro v4 e5
      intro v6 e7
      have b8 := vg_and e7 (by omega)
      intro s9 e10
      have i11 : Iv s9 := Iv.u1 i0 e10 rfl
      have k12 : Kp s0 s9 := Kx.u1 Kx.rf e10 rfl
      intro v13 e14
      have w15 : v6 = v13 := by rw [e14, e10]; exact vg_u1_self.symm
      subst w15
      refine And.intro ⟨by omega, by omega⟩ ?_
      intro s16 e17
      have i18 : Iv s16 := Iv.a1 i11 e17 rfl
      have k19 : Kp s0 s16 := Kx.u1 k12 e17 rfl
      intro v20 e21
      have g22 : s0.1 47 2 = v20 := by rw [e21, e17, vg_u1_ne (a := 47) (k := 48) (by decide), e10, vg_u1_at (a := 47) (b := 2) (k := 47) (i := 1) (by decide)]
      have b23 : (0 : Int) ≤ v20.toInt ∧ v20.toInt ≤ 48 := by rw [e21]; exact Iv_47_2 i18
      intro v24 e25
      have b26 := vg_add e25 (by omega) (by omega)
      refine And.intro (Nat.le_of_ble_eq_true rfl) (And.intro ⟨(Int32.ofInt 48), v24, rfl, trivial⟩ ?_)
      intro v27 s29 h28
      have h28 : s29 = s16 ∧ (v27.toInt ≤ (Int32.ofInt 48).toInt ∧ v27.toInt ≤ v24.toInt ∧ (v27.toInt = (Int32.ofInt 48).toInt ∨ v27.toInt = v24.toInt)) := h28
      have q32 := h28.1.symm
      subst q32
      have q33 := h28.2
      intro s34 e35
      have i36 : Iv s34 := Iv.c1 (lo := 0) (hi := 48) i18 e35 rfl (by omega) (by omega)
      have k37 : Kp s0 s34 := Kx.u1 k19 e35 rfl
      intro v38 e39
      have g40 : s0.1 47 3 = v38 := by rw [e39, e35, vg_u1_at (a := 47) (b := 3) (k := 47) (i := 2) (by decide), e17, vg_u1_ne (a := 47) (k := 48) (by decide), e10, vg_u1_at (a := 47) (b := 3) (k := 47) (i := 1) (by decide)]
      intro v41 e42
      intro s43 e44
      have i45 : Iv s43 := Iv.u1 i36 e44 rfl
      have k46 : Kp s0 s43 := Kx.u1 k37 e44 rfl
      show Iv s43 ∧ Kp s0 s43 ∧ (True)
      exact ⟨i45, k46, (trivial)⟩
  ·
    have z1 : (Int32.ofInt 1).toInt = 1 := by decide
    have z48 : (Int32.ofInt 48).toInt = 48 := by decide
    have z63 : (Int32.ofInt 63).toInt = 63 := by decide
    refine ⟨Nat.le_of_ble_eq_true rfl, [], ?_, fun _ h => absurd h List.not_mem_nil⟩
    ·
      intro v1 e2
      have g3 : s0.1 49 1 = v1 := by rw [e2]
      intro v4 e5
      intro v6 e7
      have b8 := vg_and e7 (by omega)
      intro s9 e10
      have i11 : Iv s9 := Iv.u1 i0 e10 rfl
      have k12 : Kp s0 s9 := Kx.u1 Kx.rf e10 rfl
      intro v13 e14
      have w15 : v6 = v13 := by rw [e14, e10]; exact vg_u1_self.symm
      subst w15
      refine And.intro ⟨by omega, by omega⟩ ?_
      intro s16 e17
      have i18 : Iv s16 := Iv.a1 i11 e17 rfl
      have k19 : Kp s0 s16 := Kx.u1 k12 e17 rfl
      intro v20 e21
      have g22 : s0.1 49 2 = v20 := by rw [e21, e17, vg_u1_ne (a := 49) (k := 50) (by decide), e10, vg_u1_at (a := 49) (b := 2) (k := 49) (i := 1) (by decide)]
      have b23 : (0 : Int) ≤ v20.toInt ∧ v20.toInt ≤ 48 := by rw [e21]; exact Iv_49_2 i18
      intro v24 e25
      have b26 := vg_add e25 (by omega) (by omega)
      refine And.intro (Nat.le_of_ble_eq_true rfl) (And.intro ⟨(Int32.ofInt 48), v24, rfl, trivial⟩ ?_)
      intro v27 s29 h28
      have h28 : s29 = s16 ∧ (v27.toInt ≤ (Int32.ofInt 48).toInt ∧ v27.toInt ≤ v24.toInt ∧ (v27.toInt = (Int32.ofInt 48).toInt ∨ v27.toInt = v24.toInt)) := h28
      have q32 := h28.1.symm
      subst q32
      have q33 := h28.2
      intro s34 e35
      have i36 : Iv s34 := Iv.c1 (lo := 0) (hi := 48) i18 e35 rfl (by omega) (by omega)
      have k37 : Kp s0 s34 := Kx.u1 k19 e35 rfl
      intro v38 e39
      have g40 : s0.1 49 3 = v38 := by rw [e39, e35, vg_u1_at (a := 49) (b := 3) (k := 49) (i := 2) (by decide), e17, vg_u1_ne (a := 49) (k := 50) (by decide), e10, vg_u1_at (a := 49) (b := 3) (k := 49) (i := 1) (by decide)]
      intro v41 e42
      intro s43 e44
      have i45 : Iv s43 := Iv.u1 i36 e44 rfl
      have k46 : Kp s0 s43 := Kx.u1 k37 e44 rfl
      show Iv s43 ∧ Kp s0 s43 ∧ (True)
      exact ⟨i45, k46, (trivial)⟩
  ·
    have z1 : (Int32.ofInt 1).toInt = 1 := by decide
    have z48 : (Int32.ofInt 48).toInt = 48 := by decide
    have z63 : (Int32.ofInt 63).toInt = 63 := by decide
    refine ⟨Nat.le_of_ble_eq_true rfl, [], ?_, fun _ h => absurd h List.not_mem_nil⟩
    ·
      intro v1 e2
      have g3 : s0.1 51 1 = v1 := by rw [e2]
      intro v4 e5
      intro v6 e7
      have b8 := vg_and e7 (by omega)
      intro s9 e10
      have i11 : Iv s9 := Iv.u1 i0 e10 rfl
      have k12 : Kp s0 s9 := Kx.u1 Kx.rf e10 rfl
      intro v13 e14
      have w15 : v6 = v13 := by rw [e14, e10]; exact vg_u1_self.symm
      subst w15
      refine And.intro ⟨by omega, by omega⟩ ?_
      intro s16 e17
      have i18 : Iv s16 := Iv.a1 i11 e17 rfl
      have k19 : Kp s0 s16 := Kx.u1 k12 e17 rfl
      intro v20 e21
      have g22 : s0.1 51 2 = v20 := by rw [e21, e17, vg_u1_ne (a := 51) (k := 52) (by decide), e10, vg_u1_at (a := 51) (b := 2) (k := 51) (i := 1) (by decide)]
      have b23 : (0 : Int) ≤ v20.toInt ∧ v20.toInt ≤ 48 := by rw [e21]; exact Iv_51_2 i18
      intro v24 e25
      have b26 := vg_add e25 (by omega) (by omega)
      refine And.intro (Nat.le_of_ble_eq_true rfl) (And.intro ⟨(Int32.ofInt 48), v24, rfl, trivial⟩ ?_)
      intro v27 s29 h28
      have h28 : s29 = s16 ∧ (v27.toInt ≤ (Int32.ofInt 48).toInt ∧ v27.toInt ≤ v24.toInt ∧ (v27.toInt = (Int32.ofInt 48).toInt ∨ v27.toInt = v24.toInt)) := h28
      have q32 := h28.1.symm
      subst q32
      have q33 := h28.2
      intro s34 e35
      have i36 : Iv s34 := Iv.c1 (lo := 0) (hi := 48) i18 e35 rfl (by omega) (by omega)
      have k37 : Kp s0 s34 := Kx.u1 k19 e35 rfl
      intro v38 e39
      have g40 : s0.1 51 3 = v38 := by rw [e39, e35, vg_u1_at (a := 51) (b := 3) (k := 51) (i := 2) (by decide), e17, vg_u1_ne (a := 51) (k := 52) (by decide), e10, vg_u1_at (a := 51) (b := 3) (k := 51) (i := 1) (by decide)]
      intro v41 e42
      intro s43 e44
      have i45 : Iv s43 := Iv.u1 i36 e44 rfl
      have k46 : Kp s0 s43 := Kx.u1 k37 e44 rfl
      show Iv s43 ∧ Kp s0 s43 ∧ (True)
      exact ⟨i45, k46, (trivial)⟩
  ·
    have z1 : (Int32.ofInt 1).toInt = 1 := by decide
    have z48 : (Int32.ofInt 48).toInt = 48 := by decide
    have z63 : (Int32.ofInt 63).toInt = 63 := by decide
    refine ⟨Nat.le_of_ble_eq_true rfl, [], ?_, fun _ h => absurd h List.not_mem_nil⟩
    ·
      intro v1 e2
      have g3 : s0.1 53 1 = v1 := by rw [e2]
      intro v4 e5
      intro v6 e7
      have b8 := vg_and e7 (by omega)
      intro s9 e10
      have i11 : Iv s9 := Iv.u1 i0 e10 rfl
      have k12 : Kp s0 s9 := Kx.u1 Kx.rf e10 rfl
      intro v13 e14
      have w15 : v6 = v13 := by rw [e14, e10]; exact vg_u1_self.symm
      subst w15
      refine And.intro ⟨by omega, by omega⟩ ?_
      intro s16 e17
      have i18 : Iv s16 := Iv.a1 i11 e17 rfl
      have k19 : Kp s0 s16 := Kx.u1 k12 e17 rfl
      intro v20 e21
      have g22 : s0.1 53 2 = v20 := by rw [e21, e17, vg_u1_ne (a := 53) (k := 54) (by decide), e10, vg_u1_at (a := 53) (b := 2) (k := 53) (i := 1) (by decide)]
      have b23 : (0 : Int) ≤ v20.toInt ∧ v20.toInt ≤ 48 := by rw [e21]; exact Iv_53_2 i18
      intro v24 e25
      have b26 := vg_add e25 (by omega) (by omega)
      refine And.intro (Nat.le_of_ble_eq_true rfl) (And.intro ⟨(Int32.ofInt 48), v24, rfl, trivial⟩ ?_)
      intro v27 s29 h28
      have h28 : s29 = s16 ∧ (v27.toInt ≤ (Int32.ofInt 48).toInt ∧ v27.toInt ≤ v24.toInt ∧ (v27.toInt = (Int32.ofInt 48).toInt ∨ v27.toInt = v24.toInt)) := h28
      have q32 := h28.1.symm
      subst q32
      have q33 := h28.2
      intro s34 e35
      have i36 : Iv s34 := Iv.c1 (lo := 0) (hi := 48) i18 e35 rfl (by omega) (by omega)
      have k37 : Kp s0 s34 := Kx.u1 k19 e35 rfl
      intro v38 e39
      have g40 : s0.1 53 3 = v38 := by rw [e39, e35, vg_u1_at (a := 53) (b := 3) (k := 53) (i := 2) (by decide), e17, vg_u1_ne (a := 53) (k := 54) (by decide), e10, vg_u1_at (a := 53) (b := 3) (k := 53) (i := 1) (by decide)]
      intro v41 e42
      intro s43 e44
      have i45 : Iv s43 := Iv.u1 i36 e44 rfl
      have k46 : Kp s0 s43 := Kx.u1 k37 e44 rfl
      show Iv s43 ∧ Kp s0 s43 ∧ (True)
      exact ⟨i45, k46, (trivial)⟩
def o_X4_get : List vg_I := [(0, .aload_n 0, 1, 0, 0, 0, 0), (1, .getfield 9, 3, 412, 4, 0, 0), (4, .aload_n 0, 1, 0, 0, 0, 0), (5, .getfield 20, 3, 413, 4, 1, 0), (8, .iload_n 1, 1, 0, 0, 0, 0), (9, .isub, 1, 0, 0, 0, 0), (10, .bipush 63, 2, 0, 0, 0, 0), (12, .iand, 1, 0, 0, 0, 0), (13, .iaload, 1, 0, 0, 0, 0), (14, .ireturn, 1, 0, 0, 0, 0)]
set_option maxRecDepth 100000 in
set_option maxHeartbeats 4000000 in
theorem c_X4_get (l : Launch) (G : vg_G) (hp : vg_Hp G) : vg_Ct l G vg_sh r_X4_get := by
  refine vg_meth hp vg_sh_ok r_X4_get k_X4_get rfl (fun h => by cases h) o_X4_get [] false (by decide +kernel) (by decide +kernel) ⟨_, _, rfl, rfl⟩ (fun _ h => absurd h List.not_mem_nil) (fun h => by cases h) 600 ?_
  intro as s0 hpre
  obtain ⟨r, a1, rfl, hr, i0⟩ := hpre
  simp only [List.mem_cons, List.not_mem_nil, or_false] at hr
  rcases hr with rfl | rfl | rfl | rfl | rfl | rfl | rfl
  ·
    have z63 : (Int32.ofInt 63).toInt = 63 := by decide
    refine ⟨Nat.le_of_ble_eq_true rfl, [], ?_, fun _ h => absurd h List.not_mem_nil⟩
    ·
      intro v1 e2
      have g3 : s0.1 41 1 = v1 := by rw [e2]
      intro v4 e5
      intro v6 e7
      have b8 := vg_and e7 (by omega)
      refine And.intro ⟨by omega, by omega⟩ ?_
      intro v9 e10
      show s0 = s0 ∧ (True)
      exact ⟨rfl, (trivial)⟩
  ·
    have z63 : (Int32.ofInt 63).toInt = 63 := by decide
    refine ⟨Nat.le_of_ble_eq_true rfl, [], ?_, fun _ h => absurd h List.not_mem_nil⟩
    ·
      intro v1 e2
      have g3 : s0.1 43 1 = v1 := by rw [e2]
      intro v4 e5
      intro v6 e7
      have b8 := vg_and e7 (by omega)
      refine And.intro ⟨by omega, by omega⟩ ?_
      intro v9 e10
      show s0 = s0 ∧ (True)
      exact ⟨rfl, (trivial)⟩
  ·
    have z63 : (Int32.ofInt 63).toInt = 63 := by decide
    refine ⟨Nat.le_of_ble_eq_true rfl, [], ?_, fun _ h => absurd h List.not_mem_nil⟩
    ·
      intro v1 e2
      have g3 : s0.1 45 1 = v1 := by rw [e2]
      intro v4 e5
      intro v6 e7
      have b8 := vg_and e7 (by omega)
      refine And.intro ⟨by omega, by omega⟩ ?_
      intro v9 e10
      show s0 = s0 ∧ (True)
      exact ⟨rfl, (trivial)⟩
  ·
    have z63 : (Int32.ofInt 63).toInt = 63 := by decide
    refine ⟨Nat.le_of_ble_eq_true rfl, [], ?_, fun _ h => absurd h List.not_mem_nil⟩
    ·
      intro v1 e2
      have g3 : s0.1 47 1 = v1 := by rw [e2]
      intro v4 e5
      intro v6 e7
      have b8 := vg_and e7 (by omega)
      refine And.intro ⟨by omega, by omega⟩ ?_
      intro v9 e10
      show s0 = s0 ∧ (True)
      exact ⟨rfl, (trivial)⟩
  ·
    have z63 : (Int32.ofInt 63).toInt = 63 := by decide
    refine ⟨Nat.le_of_ble_eq_true rfl, [], ?_, fun _ h => absurd h List.not_mem_nil⟩
    ·
      intro v1 e2
      have g3 : s0.1 49 1 = v1 := by rw [e2]
      intro v4 e5
      intro v6 e7
      have b8 := vg_and e7 (by omega)
      refine And.intro ⟨by omega, by omega⟩ ?_
      intro v9 e10
      show s0 = s0 ∧ (True)
      exact ⟨rfl, (trivial)⟩
  ·
    have z63 : (Int32.ofInt 63).toInt = 63 := by decide
    refine ⟨Nat.le_of_ble_eq_true rfl, [], ?_, fun _ h => absurd h List.not_mem_nil⟩
    ·
      intro v1 e2
      have g3 : s0.1 51 1 = v1 := by rw [e2]
      intro v4 e5
      intro v6 e7
      have b8 := vg_and e7 (by omega)
      refine And.intro ⟨by omega, by omega⟩ ?_
      intro v9 e10
      show s0 = s0 ∧ (True)
      exact ⟨rfl, (trivial)⟩
  ·
    have z63 : (Int32.ofInt 63).toInt = 63 := by decide
    refine ⟨Nat.le_of_ble_eq_true rfl, [], ?_, fun _ h => absurd h List.not_mem_nil⟩
    ·
      intro v1 e2
      have g3 : s0.1 53 1 = v1 := by rw [e2]
      intro v4 e5
      intro v6 e7
      have b8 := vg_and e7 (by omega)
      refine And.intro ⟨by omega, by omega⟩ ?_
      intro v9 e10
      show s0 = s0 ∧ (True)
      exact ⟨rfl, (trivial)⟩
def o_X4_least : List vg_I := [(0, .aload_n 0, 1, 0, 0, 0, 0), (1, .iconst 0, 1, 0, 0, 0, 0), (2, .invokevirtual 29, 3, 0, 4, 1, 829), (5, .istore_n 1, 1, 0, 0, 0, 0), (6, .iconst 1, 1, 0, 0, 0, 0), (7, .istore_n 2, 1, 0, 0, 0, 0), (8, .iload_n 2, 1, 0, 0, 0, 0), (9, .aload_n 0, 1, 0, 0, 0, 0), (10, .getfield 13, 3, 414, 4, 2, 0), (13, .if_icmp .ge 19, 3, 0, 0, 0, 0), (16, .iload_n 1, 1, 0, 0, 0, 0), (17, .aload_n 0, 1, 0, 0, 0, 0), (18, .iload_n 2, 1, 0, 0, 0, 0), (19, .invokevirtual 29, 3, 0, 4, 1, 829), (22, .invokestatic 23, 3, 1, 1, 2, 638), (25, .istore_n 1, 1, 0, 0, 0, 0), (26, .iinc 2 1, 3, 0, 0, 0, 0), (29, .goto (-21), 3, 0, 0, 0, 0), (32, .iload_n 1, 1, 0, 0, 0, 0), (33, .ireturn, 1, 0, 0, 0, 0)]
set_option maxRecDepth 100000 in
set_option maxHeartbeats 4000000 in
theorem c_X4_least (l : Launch) (G : vg_G) (hp : vg_Hp G) : vg_Ct l G vg_sh r_X4_least := by
  refine vg_meth hp vg_sh_ok r_X4_least k_X4_least rfl (fun h => by cases h) o_X4_least [r_X4_get, r_J9_min_7cf53] false (by decide +kernel) (by decide +kernel) ⟨_, _, rfl, rfl⟩ (List.forall_mem_cons.mpr ⟨⟨c_X4_get l G hp, Nat.le_of_ble_eq_true rfl, Nat.le_of_ble_eq_true rfl⟩, List.forall_mem_cons.mpr ⟨⟨c_J9_min_7cf53 l G hp, Nat.le_of_ble_eq_true rfl, Nat.le_of_ble_eq_true rfl⟩, fun _ h => absurd h List.not_mem_nil⟩⟩) (fun h => by cases h) 600 ?_
  intro as s0 hpre
  obtain ⟨r, rfl, hr, i0⟩ := hpre
  simp only [List.mem_cons, List.not_mem_nil, or_false] at hr
  rcases hr with rfl | rfl | rfl | rfl | rfl | rfl | rfl
  ·
    have z0 : (Int32.ofInt 0).toInt = 0 := by decide
    have z1 : (Int32.ofInt 1).toInt = 1 := by decide
    refine ⟨Nat.le_of_ble_eq_true rfl, [(8, [true, true, true], (fun L t => ∃ (x1 : Int32) (x2 : Int32), L = [some (.ref 41), some (.int x1), some (.int x2)] ∧ (1 : Int) ≤ x2.toInt ∧ x2.toInt ≤ (48 : Int) ∧ t = s0), (fun L _ => (0 + (48 - (vg_li L 2).toInt) * 1000000000000).toNat))], ?_, List.forall_mem_cons.mpr ⟨?_, fun _ h => absurd h List.not_mem_nil⟩⟩
    ·
      refine And.intro (Nat.le_of_ble_eq_true rfl) (And.intro ⟨41, (Int32.ofInt 0), rfl, by decide, i0⟩ ?_)
      intro v1 s3 h2
      have h2 : s3 = s0 ∧ (True) := h2
      have q6 := h2.1.symm
      subst q6
      exact ⟨rfl, ⟨v1, (Int32.ofInt 1), rfl, (by omega), (by omega), rfl⟩, trivial⟩
    ·
      intro L s11 hL
      obtain ⟨w7, w8, rfl, b9, b10, q14⟩ := hL
      have q14 := q14.symm
      subst q14
      intro v15 e16
      have g17 : s0.1 41 2 = v15 := by rw [e16]
      have b18 : (0 : Int) ≤ v15.toInt ∧ v15.toInt ≤ 48 := by rw [e16]; exact Iv_41_2 i0
      refine And.intro (fun c19 => ?_) (fun c19 => ?_)
      · have c19 : v15.toInt ≤ w8.toInt := c19
        show s0 = s0 ∧ (True)
        exact ⟨rfl, (trivial)⟩
      · have c19 : ¬ (v15.toInt ≤ w8.toInt) := c19
        refine And.intro (Nat.le_of_ble_eq_true rfl) (And.intro ⟨41, w8, rfl, by decide, i0⟩ ?_)
        intro v20 s22 h21
        have h21 : s22 = s0 ∧ (True) := h21
        have q25 := h21.1.symm
        subst q25
        refine And.intro (Nat.le_of_ble_eq_true rfl) (And.intro ⟨w7, v20, rfl, trivial⟩ ?_)
        intro v26 s28 h27
        have h27 : s28 = s0 ∧ (v26.toInt ≤ w7.toInt ∧ v26.toInt ≤ v20.toInt ∧ (v26.toInt = w7.toInt ∨ v26.toInt = v20.toInt)) := h27
        have q31 := h27.1.symm
        subst q31
        have q32 := h27.2
        intro v33 e34
        have b35 := vg_add e34 (by omega) (by omega)
        exact ⟨rfl, ⟨v26, v33, rfl, (by omega), (by omega), rfl⟩, (by show (0 + (48 - v33.toInt) * 1000000000000).toNat < (0 + (48 - w8.toInt) * 1000000000000).toNat; omega)⟩
  ·
    have z0 : (Int32.ofInt 0).toInt = 0 := by decide
    have z1 : (Int32.ofInt 1).toInt = 1 := by decide
    refine ⟨Nat.le_of_ble_eq_true rfl, [(8, [true, true, true], (fun L t => ∃ (x1 : Int32) (x2 : Int32), L = [some (.ref 43), some (.int x1), some (.int x2)] ∧ (1 : Int) ≤ x2.toInt ∧ x2.toInt ≤ (48 : Int) ∧ t = s0), (fun L _ => (0 + (48 - (vg_li L 2).toInt) * 1000000000000).toNat))], ?_, List.forall_mem_cons.mpr ⟨?_, fun _ h => absurd h List.not_mem_nil⟩⟩
    ·
      refine And.intro (Nat.le_of_ble_eq_true rfl) (And.intro ⟨43, (Int32.ofInt 0), rfl, by decide, i0⟩ ?_)
      intro v1 s3 h2
      have h2 : s3 = s0 ∧ (True) := h2
      have q6 := h2.1.symm
      subst q6
      exact ⟨rfl, ⟨v1, (Int32.ofInt 1), rfl, (by omega), (by omega), rfl⟩, trivial⟩
    ·
      intro L s11 hL
      obtain ⟨w7, w8, rfl, b9, b10, q14⟩ := hL
      have q14 := q14.symm
      subst q14
      intro v15 e16
      have g17 : s0.1 43 2 = v15 := by rw [e16]
      have b18 : (0 : Int) ≤ v15.toInt ∧ v15.toInt ≤ 48 := by rw [e16]; exact Iv_43_2 i0
      refine And.intro (fun c19 => ?_) (fun c19 => ?_)
      · have c19 : v15.toInt ≤ w8.toInt := c19
        show s0 = s0 ∧ (True)
        exact ⟨rfl, (trivial)⟩
      · have c19 : ¬ (v15.toInt ≤ w8.toInt) := c19
        refine And.intro (Nat.le_of_ble_eq_true rfl) (And.intro ⟨43, w8, rfl, by decide, i0⟩ ?_)
        intro v20 s22 h21
        have h21 : s22 = s0 ∧ (True) := h21
        have q25 := h21.1.symm
        subst q25
        refine And.intro (Nat.le_of_ble_eq_true rfl) (And.intro ⟨w7, v20, rfl, trivial⟩ ?_)
        intro v26 s28 h27
        have h27 : s28 = s0 ∧ (v26.toInt ≤ w7.toInt ∧ v26.toInt ≤ v20.toInt ∧ (v26.toInt = w7.toInt ∨ v26.toInt = v20.toInt)) := h27
        have q31 := h27.1.symm
        subst q31
        have q32 := h27.2
        intro v33 e34
        have b35 := vg_add e34 (by omega) (by omega)
        exact ⟨rfl, ⟨v26, v33, rfl, (by omega), (by omega), rfl⟩, (by show (0 + (48 - v33.toInt) * 1000000000000).toNat < (0 + (48 - w8.toInt) * 1000000000000).toNat; omega)⟩
  ·
    have z0 : (Int32.ofInt 0).toInt = 0 := by decide
    have z1 : (Int32.ofInt 1).toInt = 1 := by decide
    refine ⟨Nat.le_of_ble_eq_true rfl, [(8, [true, true, true], (fun L t => ∃ (x1 : Int32) (x2 : Int32), L = [some (.ref 45), some (.int x1), some (.int x2)] ∧ (1 : Int) ≤ x2.toInt ∧ x2.toInt ≤ (48 : Int) ∧ t = s0), (fun L _ => (0 + (48 - (vg_li L 2).toInt) * 1000000000000).toNat))], ?_, List.forall_mem_cons.mpr ⟨?_, fun _ h => absurd h List.not_mem_nil⟩⟩
    ·
      refine And.intro (Nat.le_of_ble_eq_true rfl) (And.intro ⟨45, (Int32.ofInt 0), rfl, by decide, i0⟩ ?_)
      intro v1 s3 h2
      have h2 : s3 = s0 ∧ (True) := h2
      have q6 := h2.1.symm
      subst q6
      exact ⟨rfl, ⟨v1, (Int32.ofInt 1), rfl, (by omega), (by omega), rfl⟩, trivial⟩
    ·
      intro L s11 hL
      obtain ⟨w7, w8, rfl, b9, b10, q14⟩ := hL
      have q14 := q14.symm
      subst q14
      intro v15 e16
      have g17 : s0.1 45 2 = v15 := by rw [e16]
      have b18 : (0 : Int) ≤ v15.toInt ∧ v15.toInt ≤ 48 := by rw [e16]; exact Iv_45_2 i0
      refine And.intro (fun c19 => ?_) (fun c19 => ?_)
      · have c19 : v15.toInt ≤ w8.toInt := c19
        show s0 = s0 ∧ (True)
        exact ⟨rfl, (trivial)⟩
      · have c19 : ¬ (v15.toInt ≤ w8.toInt) := c19
        refine And.intro (Nat.le_of_ble_eq_true rfl) (And.intro ⟨45, w8, rfl, by decide, i0⟩ ?_)
        intro v20 s22 h21
        have h21 : s22 = s0 ∧ (True) := h21
        have q25 := h21.1.symm
        subst q25
        refine And.intro (Nat.le_of_ble_eq_true rfl) (And.intro ⟨w7, v20, rfl, trivial⟩ ?_)
        intro v26 s28 h27
        have h27 : s28 = s0 ∧ (v26.toInt ≤ w7.toInt ∧ v26.toInt ≤ v20.toInt ∧ (v26.toInt = w7.toInt ∨ v26.toInt = v20.toInt)) := h27
        have q31 := h27.1.symm
        subst q31
        have q32 := h27.2
        intro v33 e34
        have b35 := vg_add e34 (by omega) (by omega)
        exact ⟨rfl, ⟨v26, v33, rfl, (by omega), (by omega), rfl⟩, (by show (0 + (48 - v33.toInt) * 1000000000000).toNat < (0 + (48 - w8.toInt) * 1000000000000).toNat; omega)⟩
  ·
    have z0 : (Int32.ofInt 0).toInt = 0 := by decide
    have z1 : (Int32.ofInt 1).toInt = 1 := by decide
    refine ⟨Nat.le_of_ble_eq_true rfl, [(8, [true, true, true], (fun L t => ∃ (x1 : Int32) (x2 : Int32), L = [some (.ref 47), some (.int x1), some (.int x2)] ∧ (1 : Int) ≤ x2.toInt ∧ x2.toInt ≤ (48 : Int) ∧ t = s0), (fun L _ => (0 + (48 - (vg_li L 2).toInt) * 1000000000000).toNat))], ?_, List.forall_mem_cons.mpr ⟨?_, fun _ h => absurd h List.not_mem_nil⟩⟩
    ·
      refine And.intro (Nat.le_of_ble_eq_true rfl) (And.intro ⟨47, (Int32.ofInt 0), rfl, by decide, i0⟩ ?_)
      intro v1 s3 h2
      have h2 : s3 = s0 ∧ (True) := h2
      have q6 := h2.1.symm
      subst q6
      exact ⟨rfl, ⟨v1, (Int32.ofInt 1), rfl, (by omega), (by omega), rfl⟩, trivial⟩
    ·
      intro L s11 hL
      obtain ⟨w7, w8, rfl, b9, b10, q14⟩ := hL
      have q14 := q14.symm
      subst q14
      intro v15 e16
      have g17 : s0.1 47 2 = v15 := by rw [e16]
      have b18 : (0 : Int) ≤ v15.toInt ∧ v15.toInt ≤ 48 := by rw [e16]; exact Iv_47_2 i0
      refine And.intro (fun c19 => ?_) (fun c19 => ?_)
      · have c19 : v15.toInt ≤ w8.toInt := c19
        show s0 = s0 ∧ (True)
        exact ⟨rfl, (trivial)⟩
      · have c19 : ¬ (v15.toInt ≤ w8.toInt) := c19
        refine And.intro (Nat.le_of_ble_eq_true rfl) (And.intro ⟨47, w8, rfl, by decide, i0⟩ ?_)
        intro v20 s22 h21
        have h21 : s22 = s0 ∧ (True) := h21
        have q25 := h21.1.symm
        subst q25
        refine And.intro (Nat.le_of_ble_eq_true rfl) (And.intro ⟨w7, v20, rfl, trivial⟩ ?_)
        intro v26 s28 h27
        have h27 : s28 = s0 ∧ (v26.toInt ≤ w7.toInt ∧ v26.toInt ≤ v20.toInt ∧ (v26.toInt = w7.toInt ∨ v26.toInt = v20.toInt)) := h27
        have q31 := h27.1.symm
        subst q31
        have q32 := h27.2
        intro v33 e34
        have b35 := vg_add e34 (by omega) (by omega)
        exact ⟨rfl, ⟨v26, v33, rfl, (by omega), (by omega), rfl⟩, (by show (0 + (48 - v33.toInt) * 1000000000000).toNat < (0 + (48 - w8.toInt) * 1000000000000).toNat; omega)⟩
  ·
    have z0 : (Int32.ofInt 0).toInt = 0 := by decide
    have z1 : (Int32.ofInt 1).toInt = 1 := by decide
    refine ⟨Nat.le_of_ble_eq_true rfl, [(8, [true, true, true], (fun L t => ∃ (x1 : Int32) (x2 : Int32), L = [some (.ref 49), some (.int x1), some (.int x2)] ∧ (1 : Int) ≤ x2.toInt ∧ x2.toInt ≤ (48 : Int) ∧ t = s0), (fun L _ => (0 + (48 - (vg_li L 2).toInt) * 1000000000000).toNat))], ?_, List.forall_mem_cons.mpr ⟨?_, fun _ h => absurd h List.not_mem_nil⟩⟩
    ·
      refine And.intro (Nat.le_of_ble_eq_true rfl) (And.intro ⟨49, (Int32.ofInt 0), rfl, by decide, i0⟩ ?_)
      intro v1 s3 h2
      have h2 : s3 = s0 ∧ (True) := h2
      have q6 := h2.1.symm
      subst q6
      exact ⟨rfl, ⟨v1, (Int32.ofInt 1), rfl, (by omega), (by omega), rfl⟩, trivial⟩
    ·
      intro L s11 hL
      obtain ⟨w7, w8, rfl, b9, b10, q14⟩ := hL
      have q14 := q14.symm
      subst q14
      intro v15 e16
      have g17 : s0.1 49 2 = v15 := by rw [e16]
      have b18 : (0 : Int) ≤ v15.toInt ∧ v15.toInt ≤ 48 := by rw [e16]; exact Iv_49_2 i0
      refine And.intro (fun c19 => ?_) (fun c19 => ?_)
      · have c19 : v15.toInt ≤ w8.toInt := c19
        show s0 = s0 ∧ (True)
        exact ⟨rfl, (trivial)⟩
      · have c19 : ¬ (v15.toInt ≤ w8.toInt) := c19
        refine And.intro (Nat.le_of_ble_eq_true rfl) (And.intro ⟨49, w8, rfl, by decide, i0⟩ ?_)
        intro v20 s22 h21
        have h21 : s22 = s0 ∧ (True) := h21
        have q25 := h21.1.symm
        subst q25
        refine And.intro (Nat.le_of_ble_eq_true rfl) (And.intro ⟨w7, v20, rfl, trivial⟩ ?_)
        intro v26 s28 h27
        have h27 : s28 = s0 ∧ (v26.toInt ≤ w7.toInt ∧ v26.toInt ≤ v20.toInt ∧ (v26.toInt = w7.toInt ∨ v26.toInt = v20.toInt)) := h27
        have q31 := h27.1.symm
        subst q31
        have q32 := h27.2
        intro v33 e34
        have b35 := vg_add e34 (by omega) (by omega)
        exact ⟨rfl, ⟨v26, v33, rfl, (by omega), (by omega), rfl⟩, (by show (0 + (48 - v33.toInt) * 1000000000000).toNat < (0 + (48 - w8.toInt) * 1000000000000).toNat; omega)⟩
  ·
    have z0 : (Int32.ofInt 0).toInt = 0 := by decide
    have z1 : (Int32.ofInt 1).toInt = 1 := by decide
    refine ⟨Nat.le_of_ble_eq_true rfl, [(8, [true, true, true], (fun L t => ∃ (x1 : Int32) (x2 : Int32), L = [some (.ref 51), some (.int x1), some (.int x2)] ∧ (1 : Int) ≤ x2.toInt ∧ x2.toInt ≤ (48 : Int) ∧ t = s0), (fun L _ => (0 + (48 - (vg_li L 2).toInt) * 1000000000000).toNat))], ?_, List.forall_mem_cons.mpr ⟨?_, fun _ h => absurd h List.not_mem_nil⟩⟩
    ·
      refine And.intro (Nat.le_of_ble_eq_true rfl) (And.intro ⟨51, (Int32.ofInt 0), rfl, by decide, i0⟩ ?_)
      intro v1 s3 h2
      have h2 : s3 = s0 ∧ (True) := h2
      have q6 := h2.1.symm
      subst q6
      exact ⟨rfl, ⟨v1, (Int32.ofInt 1), rfl, (by omega), (by omega), rfl⟩, trivial⟩
    ·
      intro L s11 hL
      obtain ⟨w7, w8, rfl, b9, b10, q14⟩ := hL
      have q14 := q14.symm
      subst q14
      intro v15 e16
      have g17 : s0.1 51 2 = v15 := by rw [e16]
      have b18 : (0 : Int) ≤ v15.toInt ∧ v15.toInt ≤ 48 := by rw [e16]; exact Iv_51_2 i0
      refine And.intro (fun c19 => ?_) (fun c19 => ?_)
      · have c19 : v15.toInt ≤ w8.toInt := c19
        show s0 = s0 ∧ (True)
        exact ⟨rfl, (trivial)⟩
      · have c19 : ¬ (v15.toInt ≤ w8.toInt) := c19
        refine And.intro (Nat.le_of_ble_eq_true rfl) (And.intro ⟨51, w8, rfl, by decide, i0⟩ ?_)
        intro v20 s22 h21
        have h21 : s22 = s0 ∧ (True) := h21
        have q25 := h21.1.symm
        subst q25
        refine And.intro (Nat.le_of_ble_eq_true rfl) (And.intro ⟨w7, v20, rfl, trivial⟩ ?_)
        intro v26 s28 h27
        have h27 : s28 = s0 ∧ (v26.toInt ≤ w7.toInt ∧ v26.toInt ≤ v20.toInt ∧ (v26.toInt = w7.toInt ∨ v26.toInt = v20.toInt)) := h27
        have q31 := h27.1.symm
        subst q31
        have q32 := h27.2
        intro v33 e34
        have b35 := vg_add e34 (by omega) (by omega)
        exact ⟨rfl, ⟨v26, v33, rfl, (by omega), (by omega), rfl⟩, (by show (0 + (48 - v33.toInt) * 1000000000000).toNat < (0 + (48 - w8.toInt) * 1000000000000).toNat; omega)⟩
  ·
    have z0 : (Int32.ofInt 0).toInt = 0 := by decide
    have z1 : (Int32.ofInt 1).toInt = 1 := by decide
    refine ⟨Nat.le_of_ble_eq_true rfl, [(8, [true, true, true], (fun L t => ∃ (x1 : Int32) (x2 : Int32), L = [some (.ref 53), some (.int x1), some (.int x2)] ∧ (1 : Int) ≤ x2.toInt ∧ x2.toInt ≤ (48 : Int) ∧ t = s0), (fun L _ => (0 + (48 - (vg_li L 2).toInt) * 1000000000000).toNat))], ?_, List.forall_mem_cons.mpr ⟨?_, fun _ h => absurd h List.not_mem_nil⟩⟩
    ·
      refine And.intro (Nat.le_of_ble_eq_true rfl) (And.intro ⟨53, (Int32.ofInt 0), rfl, by decide, i0⟩ ?_)
      intro v1 s3 h2
      have h2 : s3 = s0 ∧ (True) := h2
      have q6 := h2.1.symm
      subst q6
      exact ⟨rfl, ⟨v1, (Int32.ofInt 1), rfl, (by omega), (by omega), rfl⟩, trivial⟩
    ·
      intro L s11 hL
      obtain ⟨w7, w8, rfl, b9, b10, q14⟩ := hL
      have q14 := q14.symm
      subst q14
      intro v15 e16
      have g17 : s0.1 53 2 = v15 := by rw [e16]
      have b18 : (0 : Int) ≤ v15.toInt ∧ v15.toInt ≤ 48 := by rw [e16]; exact Iv_53_2 i0
      refine And.intro (fun c19 => ?_) (fun c19 => ?_)
      · have c19 : v15.toInt ≤ w8.toInt := c19
        show s0 = s0 ∧ (True)
        exact ⟨rfl, (trivial)⟩
      · have c19 : ¬ (v15.toInt ≤ w8.toInt) := c19
        refine And.intro (Nat.le_of_ble_eq_true rfl) (And.intro ⟨53, w8, rfl, by decide, i0⟩ ?_)
        intro v20 s22 h21
        have h21 : s22 = s0 ∧ (True) := h21
        have q25 := h21.1.symm
        subst q25
        refine And.intro (Nat.le_of_ble_eq_true rfl) (And.intro ⟨w7, v20, rfl, trivial⟩ ?_)
        intro v26 s28 h27
        have h27 : s28 = s0 ∧ (v26.toInt ≤ w7.toInt ∧ v26.toInt ≤ v20.toInt ∧ (v26.toInt = w7.toInt ∨ v26.toInt = v20.toInt)) := h27
        have q31 := h27.1.symm
        subst q31
        have q32 := h27.2
        intro v33 e34
        have b35 := vg_add e34 (by omega) (by omega)
        exact ⟨rfl, ⟨v26, v33, rfl, (by omega), (by omega), rfl⟩, (by show (0 + (48 - v33.toInt) * 1000000000000).toNat < (0 + (48 - w8.toInt) * 1000000000000).toNat; omega)⟩
def o_X4_greatest : List vg_I := [(0, .aload_n 0, 1, 0, 0, 0, 0), (1, .iconst 0, 1, 0, 0, 0, 0), (2, .invokevirtual 29, 3, 0, 4, 1, 829), (5, .istore_n 1, 1, 0, 0, 0, 0), (6, .iconst 1, 1, 0, 0, 0, 0), (7, .istore_n 2, 1, 0, 0, 0, 0), (8, .iload_n 2, 1, 0, 0, 0, 0), (9, .aload_n 0, 1, 0, 0, 0, 0), (10, .getfield 13, 3, 414, 4, 2, 0), (13, .if_icmp .ge 19, 3, 0, 0, 0, 0), (16, .iload_n 1, 1, 0, 0, 0, 0), (17, .aload_n 0, 1, 0, 0, 0, 0), (18, .iload_n 2, 1, 0, 0, 0, 0), (19, .invokevirtual 29, 3, 0, 4, 1, 829), (22, .invokestatic 33, 3, 1, 1, 2, 834), (25, .istore_n 1, 1, 0, 0, 0, 0), (26, .iinc 2 1, 3, 0, 0, 0, 0), (29, .goto (-21), 3, 0, 0, 0, 0), (32, .iload_n 1, 1, 0, 0, 0, 0), (33, .ireturn, 1, 0, 0, 0, 0)]
set_option maxRecDepth 100000 in
set_option maxHeartbeats 4000000 in
theorem c_X4_greatest (l : Launch) (G : vg_G) (hp : vg_Hp G) : vg_Ct l G vg_sh r_X4_greatest := by
  refine vg_meth hp vg_sh_ok r_X4_greatest k_X4_greatest rfl (fun h => by cases h) o_X4_greatest [r_X4_get, r_J9_max_7cf53] false (by decide +kernel) (by decide +kernel) ⟨_, _, rfl, rfl⟩ (List.forall_mem_cons.mpr ⟨⟨c_X4_get l G hp, Nat.le_of_ble_eq_true rfl, Nat.le_of_ble_eq_true rfl⟩, List.forall_mem_cons.mpr ⟨⟨c_J9_max_7cf53 l G hp, Nat.le_of_ble_eq_true rfl, Nat.le_of_ble_eq_true rfl⟩, fun _ h => absurd h List.not_mem_nil⟩⟩) (fun h => by cases h) 600 ?_
  intro as s0 hpre
  obtain ⟨r, rfl, hr, i0⟩ := hpre
  simp only [List.mem_cons, List.not_mem_nil, or_false] at hr
  rcases hr with rfl | rfl | rfl | rfl | rfl | rfl | rfl
  ·
    have z0 : (Int32.ofInt 0).toInt = 0 := by decide
    have z1 : (Int32.ofInt 1).toInt = 1 := by decide
    refine ⟨Nat.le_of_ble_eq_true rfl, [(8, [true, true, true], (fun L t => ∃ (x1 : Int32) (x2 : Int32), L = [some (.ref 41), some (.int x1), some (.int x2)] ∧ (1 : Int) ≤ x2.toInt ∧ x2.toInt ≤ (48 : Int) ∧ t = s0), (fun L _ => (0 + (48 - (vg_li L 2).toInt) * 1000000000000).toNat))], ?_, List.forall_mem_cons.mpr ⟨?_, fun _ h => absurd h List.not_mem_nil⟩⟩
    ·
      refine And.intro (Nat.le_of_ble_eq_true rfl) (And.intro ⟨41, (Int32.ofInt 0), rfl, by decide, i0⟩ ?_)
      intro v1 s3 h2
      have h2 : s3 = s0 ∧ (True) := h2
      have q6 := h2.1.symm
      subst q6
      exact ⟨rfl, ⟨v1, (Int32.ofInt 1), rfl, (by omega), (by omega), rfl⟩, trivial⟩
    ·
      intro L s11 hL
      obtain ⟨w7, w8, rfl, b9, b10, q14⟩ := hL
      have q14 := q14.symm
      subst q14
      intro v15 e16
      have g17 : s0.1 41 2 = v15 := by rw [e16]
      have b18 : (0 : Int) ≤ v15.toInt ∧ v15.toInt ≤ 48 := by rw [e16]; exact Iv_41_2 i0
      refine And.intro (fun c19 => ?_) (fun c19 => ?_)
      · have c19 : v15.toInt ≤ w8.toInt := c19
        show s0 = s0 ∧ (True)
        exact ⟨rfl, (trivial)⟩
      · have c19 : ¬ (v15.toInt ≤ w8.toInt) := c19
        refine And.intro (Nat.le_of_ble_eq_true rfl) (And.intro ⟨41, w8, rfl, by decide, i0⟩ ?_)
        intro v20 s22 h21
        have h21 : s22 = s0 ∧ (True) := h21
        have q25 := h21.1.symm
        subst q25
        refine And.intro (Nat.le_of_ble_eq_true rfl) (And.intro ⟨w7, v20, rfl, trivial⟩ ?_)
        intro v26 s28 h27
        have h27 : s28 = s0 ∧ (w7.toInt ≤ v26.toInt ∧ v20.toInt ≤ v26.toInt ∧ (v26.toInt = w7.toInt ∨ v26.toInt = v20.toInt)) := h27
        have q31 := h27.1.symm
        subst q31
        have q32 := h27.2
        intro v33 e34
        have b35 := vg_add e34 (by omega) (by omega)
        exact ⟨rfl, ⟨v26, v33, rfl, (by omega), (by omega), rfl⟩, (by show (0 + (48 - v33.toInt) * 1000000000000).toNat < (0 + (48 - w8.toInt) * 1000000000000).toNat; omega)⟩
  ·
    have z0 : (Int32.ofInt 0).toInt = 0 := by decide
    have z1 : (Int32.ofInt 1).toInt = 1 := by decide
    refine ⟨Nat.le_of_ble_eq_true rfl, [(8, [true, true, true], (fun L t => ∃ (x1 : Int32) (x2 : Int32), L = [some (.ref 43), some (.int x1), some (.int x2)] ∧ (1 : Int) ≤ x2.toInt ∧ x2.toInt ≤ (48 : Int) ∧ t = s0), (fun L _ => (0 + (48 - (vg_li L 2).toInt) * 1000000000000).toNat))], ?_, List.forall_mem_cons.mpr ⟨?_, fun _ h => absurd h List.not_mem_nil⟩⟩
    ·
      refine And.intro (Nat.le_of_ble_eq_true rfl) (And.intro ⟨43, (Int32.ofInt 0), rfl, by decide, i0⟩ ?_)
      intro v1 s3 h2
      have h2 : s3 = s0 ∧ (True) := h2
      have q6 := h2.1.symm
      subst q6
      exact ⟨rfl, ⟨v1, (Int32.ofInt 1), rfl, (by omega), (by omega), rfl⟩, trivial⟩
    ·
      intro L s11 hL
      obtain ⟨w7, w8, rfl, b9, b10, q14⟩ := hL
      have q14 := q14.symm
      subst q14
      intro v15 e16
      have g17 : s0.1 43 2 = v15 := by rw [e16]
      have b18 : (0 : Int) ≤ v15.toInt ∧ v15.toInt ≤ 48 := by rw [e16]; exact Iv_43_2 i0
      refine And.intro (fun c19 => ?_) (fun c19 => ?_)
      · have c19 : v15.toInt ≤ w8.toInt := c19
        show s0 = s0 ∧ (True)
        exact ⟨rfl, (trivial)⟩
      · have c19 : ¬ (v15.toInt ≤ w8.toInt) := c19
        refine And.intro (Nat.le_of_ble_eq_true rfl) (And.intro ⟨43, w8, rfl, by decide, i0⟩ ?_)
        intro v20 s22 h21
        have h21 : s22 = s0 ∧ (True) := h21
        have q25 := h21.1.symm
        subst q25
        refine And.intro (Nat.le_of_ble_eq_true rfl) (And.intro ⟨w7, v20, rfl, trivial⟩ ?_)
        intro v26 s28 h27
        have h27 : s28 = s0 ∧ (w7.toInt ≤ v26.toInt ∧ v20.toInt ≤ v26.toInt ∧ (v26.toInt = w7.toInt ∨ v26.toInt = v20.toInt)) := h27
        have q31 := h27.1.symm
        subst q31
        have q32 := h27.2
        intro v33 e34
        have b35 := vg_add e34 (by omega) (by omega)
        exact ⟨rfl, ⟨v26, v33, rfl, (by omega), (by omega), rfl⟩, (by show (0 + (48 - v33.toInt) * 1000000000000).toNat < (0 + (48 - w8.toInt) * 1000000000000).toNat; omega)⟩
  ·
    have z0 : (Int32.ofInt 0).toInt = 0 := by decide
    have z1 : (Int32.ofInt 1).toInt = 1 := by decide
    refine ⟨Nat.le_of_ble_eq_true rfl, [(8, [true, true, true], (fun L t => ∃ (x1 : Int32) (x2 : Int32), L = [some (.ref 45), some (.int x1), some (.int x2)] ∧ (1 : Int) ≤ x2.toInt ∧ x2.toInt ≤ (48 : Int) ∧ t = s0), (fun L _ => (0 + (48 - (vg_li L 2).toInt) * 1000000000000).toNat))], ?_, List.forall_mem_cons.mpr ⟨?_, fun _ h => absurd h List.not_mem_nil⟩⟩
    ·
      refine And.intro (Nat.le_of_ble_eq_true rfl) (And.intro ⟨45, (Int32.ofInt 0), rfl, by decide, i0⟩ ?_)
      intro v1 s3 h2
      have h2 : s3 = s0 ∧ (True) := h2
      have q6 := h2.1.symm
      subst q6
      exact ⟨rfl, ⟨v1, (Int32.ofInt 1), rfl, (by omega), (by omega), rfl⟩, trivial⟩
    ·
      intro L s11 hL
      obtain ⟨w7, w8, rfl, b9, b10, q14⟩ := hL
      have q14 := q14.symm
      subst q14
      intro v15 e16
      have g17 : s0.1 45 2 = v15 := by rw [e16]
      have b18 : (0 : Int) ≤ v15.toInt ∧ v15.toInt ≤ 48 := by rw [e16]; exact Iv_45_2 i0
      refine And.intro (fun c19 => ?_) (fun c19 => ?_)
      · have c19 : v15.toInt ≤ w8.toInt := c19
        show s0 = s0 ∧ (True)
        exact ⟨rfl, (trivial)⟩
      · have c19 : ¬ (v15.toInt ≤ w8.toInt) := c19
        refine And.intro (Nat.le_of_ble_eq_true rfl) (And.intro ⟨45, w8, rfl, by decide, i0⟩ ?_)
        intro v20 s22 h21
        have h21 : s22 = s0 ∧ (True) := h21
        have q25 := h21.1.symm
        subst q25
        refine And.intro (Nat.le_of_ble_eq_true rfl) (And.intro ⟨w7, v20, rfl, trivial⟩ ?_)
        intro v26 s28 h27
        have h27 : s28 = s0 ∧ (w7.toInt ≤ v26.toInt ∧ v20.toInt ≤ v26.toInt ∧ (v26.toInt = w7.toInt ∨ v26.toInt = v20.toInt)) := h27
        have q31 := h27.1.symm
        subst q31
        have q32 := h27.2
        intro v33 e34
        have b35 := vg_add e34 (by omega) (by omega)
        exact ⟨rfl, ⟨v26, v33, rfl, (by omega), (by omega), rfl⟩, (by show (0 + (48 - v33.toInt) * 1000000000000).toNat < (0 + (48 - w8.toInt) * 1000000000000).toNat; omega)⟩
  ·
    have z0 : (Int32.ofInt 0).toInt = 0 := by decide
    have z1 : (Int32.ofInt 1).toInt = 1 := by decide
    refine ⟨Nat.le_of_ble_eq_true rfl, [(8, [true, true, true], (fun L t => ∃ (x1 : Int32) (x2 : Int32), L = [some (.ref 47), some (.int x1), some (.int x2)] ∧ (1 : Int) ≤ x2.toInt ∧ x2.toInt ≤ (48 : Int) ∧ t = s0), (fun L _ => (0 + (48 - (vg_li L 2).toInt) * 1000000000000).toNat))], ?_, List.forall_mem_cons.mpr ⟨?_, fun _ h => absurd h List.not_mem_nil⟩⟩
    ·
      refine And.intro (Nat.le_of_ble_eq_true rfl) (And.intro ⟨47, (Int32.ofInt 0), rfl, by decide, i0⟩ ?_)
      intro v1 s3 h2
      have h2 : s3 = s0 ∧ (True) := h2
      have q6 := h2.1.symm
      subst q6
      exact ⟨rfl, ⟨v1, (Int32.ofInt 1), rfl, (by omega), (by omega), rfl⟩, trivial⟩
    ·
      intro L s11 hL
      obtain ⟨w7, w8, rfl, b9, b10, q14⟩ := hL
      have q14 := q14.symm
      subst q14
      intro v15 e16
      have g17 : s0.1 47 2 = v15 := by rw [e16]
      have b18 : (0 : Int) ≤ v15.toInt ∧ v15.toInt ≤ 48 := by rw [e16]; exact Iv_47_2 i0
      refine And.intro (fun c19 => ?_) (fun c19 => ?_)
      · have c19 : v15.toInt ≤ w8.toInt := c19
        show s0 = s0 ∧ (True)
        exact ⟨rfl, (trivial)⟩
      · have c19 : ¬ (v15.toInt ≤ w8.toInt) := c19
        refine And.intro (Nat.le_of_ble_eq_true rfl) (And.intro ⟨47, w8, rfl, by decide, i0⟩ ?_)
        intro v20 s22 h21
        have h21 : s22 = s0 ∧ (True) := h21
        have q25 := h21.1.symm
        subst q25
        refine And.intro (Nat.le_of_ble_eq_true rfl) (And.intro ⟨w7, v20, rfl, trivial⟩ ?_)
        intro v26 s28 h27
        have h27 : s28 = s0 ∧ (w7.toInt ≤ v26.toInt ∧ v20.toInt ≤ v26.toInt ∧ (v26.toInt = w7.toInt ∨ v26.toInt = v20.toInt)) := h27
        have q31 := h27.1.symm
        subst q31
        have q32 := h27.2
        intro v33 e34
        have b35 := vg_add e34 (by omega) (by omega)
        exact ⟨rfl, ⟨v26, v33, rfl, (by omega), (by omega), rfl⟩, (by show (0 + (48 - v33.toInt) * 1000000000000).toNat < (0 + (48 - w8.toInt) * 1000000000000).toNat; omega)⟩
  ·
    have z0 : (Int32.ofInt 0).toInt = 0 := by decide
    have z1 : (Int32.ofInt 1).toInt = 1 := by decide
    refine ⟨Nat.le_of_ble_eq_true rfl, [(8, [true, true, true], (fun L t => ∃ (x1 : Int32) (x2 : Int32), L = [some (.ref 49), some (.int x1), some (.int x2)] ∧ (1 : Int) ≤ x2.toInt ∧ x2.toInt ≤ (48 : Int) ∧ t = s0), (fun L _ => (0 + (48 - (vg_li L 2).toInt) * 1000000000000).toNat))], ?_, List.forall_mem_cons.mpr ⟨?_, fun _ h => absurd h List.not_mem_nil⟩⟩
    ·
      refine And.intro (Nat.le_of_ble_eq_true rfl) (And.intro ⟨49, (Int32.ofInt 0), rfl, by decide, i0⟩ ?_)
      intro v1 s3 h2
      have h2 : s3 = s0 ∧ (True) := h2
      have q6 := h2.1.symm
      subst q6
      exact ⟨rfl, ⟨v1, (Int32.ofInt 1), rfl, (by omega), (by omega), rfl⟩, trivial⟩
    ·
      intro L s11 hL
      obtain ⟨w7, w8, rfl, b9, b10, q14⟩ := hL
      have q14 := q14.symm
      subst q14
      intro v15 e16
      have g17 : s0.1 49 2 = v15 := by rw [e16]
      have b18 : (0 : Int) ≤ v15.toInt ∧ v15.toInt ≤ 48 := by rw [e16]; exact Iv_49_2 i0
      refine And.intro (fun c19 => ?_) (fun c19 => ?_)
      · have c19 : v15.toInt ≤ w8.toInt := c19
        show s0 = s0 ∧ (True)
        exact ⟨rfl, (trivial)⟩
      · have c19 : ¬ (v15.toInt ≤ w8.toInt) := c19
        refine And.intro (Nat.le_of_ble_eq_true rfl) (And.intro ⟨49, w8, rfl, by decide, i0⟩ ?_)
        intro v20 s22 h21
        have h21 : s22 = s0 ∧ (True) := h21
        have q25 := h21.1.symm
        subst q25
        refine And.intro (Nat.le_of_ble_eq_true rfl) (And.intro ⟨w7, v20, rfl, trivial⟩ ?_)
        intro v26 s28 h27
        have h27 : s28 = s0 ∧ (w7.toInt ≤ v26.toInt ∧ v20.toInt ≤ v26.toInt ∧ (v26.toInt = w7.toInt ∨ v26.toInt = v20.toInt)) := h27
        have q31 := h27.1.symm
        subst q31
        have q32 := h27.2
        intro v33 e34
        have b35 := vg_add e34 (by omega) (by omega)
        exact ⟨rfl, ⟨v26, v33, rfl, (by omega), (by omega), rfl⟩, (by show (0 + (48 - v33.toInt) * 1000000000000).toNat < (0 + (48 - w8.toInt) * 1000000000000).toNat; omega)⟩
  ·
    have z0 : (Int32.ofInt 0).toInt = 0 := by decide
    have z1 : (Int32.ofInt 1).toInt = 1 := by decide
    refine ⟨Nat.le_of_ble_eq_true rfl, [(8, [true, true, true], (fun L t => ∃ (x1 : Int32) (x2 : Int32), L = [some (.ref 51), some (.int x1), some (.int x2)] ∧ (1 : Int) ≤ x2.toInt ∧ x2.toInt ≤ (48 : Int) ∧ t = s0), (fun L _ => (0 + (48 - (vg_li L 2).toInt) * 1000000000000).toNat))], ?_, List.forall_mem_cons.mpr ⟨?_, fun _ h => absurd h List.not_mem_nil⟩⟩
    ·
      refine And.intro (Nat.le_of_ble_eq_true rfl) (And.intro ⟨51, (Int32.ofInt 0), rfl, by decide, i0⟩ ?_)
      intro v1 s3 h2
      have h2 : s3 = s0 ∧ (True) := h2
      have q6 := h2.1.symm
      subst q6
      exact ⟨rfl, ⟨v1, (Int32.ofInt 1), rfl, (by omega), (by omega), rfl⟩, trivial⟩
    ·
      intro L s11 hL
      obtain ⟨w7, w8, rfl, b9, b10, q14⟩ := hL
      have q14 := q14.symm
      subst q14
      intro v15 e16
      have g17 : s0.1 51 2 = v15 := by rw [e16]
      have b18 : (0 : Int) ≤ v15.toInt ∧ v15.toInt ≤ 48 := by rw [e16]; exact Iv_51_2 i0
      refine And.intro (fun c19 => ?_) (fun c19 => ?_)
      · have c19 : v15.toInt ≤ w8.toInt := c19
        show s0 = s0 ∧ (True)
        exact ⟨rfl, (trivial)⟩
      · have c19 : ¬ (v15.toInt ≤ w8.toInt) := c19
        refine And.intro (Nat.le_of_ble_eq_true rfl) (And.intro ⟨51, w8, rfl, by decide, i0⟩ ?_)
        intro v20 s22 h21
        have h21 : s22 = s0 ∧ (True) := h21
        have q25 := h21.1.symm
        subst q25
        refine And.intro (Nat.le_of_ble_eq_true rfl) (And.intro ⟨w7, v20, rfl, trivial⟩ ?_)
        intro v26 s28 h27
        have h27 : s28 = s0 ∧ (w7.toInt ≤ v26.toInt ∧ v20.toInt ≤ v26.toInt ∧ (v26.toInt = w7.toInt ∨ v26.toInt = v20.toInt)) := h27
        have q31 := h27.1.symm
        subst q31
        have q32 := h27.2
        intro v33 e34
        have b35 := vg_add e34 (by omega) (by omega)
        exact ⟨rfl, ⟨v26, v33, rfl, (by omega), (by omega), rfl⟩, (by show (0 + (48 - v33.toInt) * 1000000000000).toNat < (0 + (48 - w8.toInt) * 1000000000000).toNat; omega)⟩
  ·
    have z0 : (Int32.ofInt 0).toInt = 0 := by decide
    have z1 : (Int32.ofInt 1).toInt = 1 := by decide
    refine ⟨Nat.le_of_ble_eq_true rfl, [(8, [true, true, true], (fun L t => ∃ (x1 : Int32) (x2 : Int32), L = [some (.ref 53), some (.int x1), some (.int x2)] ∧ (1 : Int) ≤ x2.toInt ∧ x2.toInt ≤ (48 : Int) ∧ t = s0), (fun L _ => (0 + (48 - (vg_li L 2).toInt) * 1000000000000).toNat))], ?_, List.forall_mem_cons.mpr ⟨?_, fun _ h => absurd h List.not_mem_nil⟩⟩
    ·
      refine And.intro (Nat.le_of_ble_eq_true rfl) (And.intro ⟨53, (Int32.ofInt 0), rfl, by decide, i0⟩ ?_)
      intro v1 s3 h2
      have h2 : s3 = s0 ∧ (True) := h2
      have q6 := h2.1.symm
      subst q6
      exact ⟨rfl, ⟨v1, (Int32.ofInt 1), rfl, (by omega), (by omega), rfl⟩, trivial⟩
    ·
      intro L s11 hL
      obtain ⟨w7, w8, rfl, b9, b10, q14⟩ := hL
      have q14 := q14.symm
      subst q14
      intro v15 e16
      have g17 : s0.1 53 2 = v15 := by rw [e16]
      have b18 : (0 : Int) ≤ v15.toInt ∧ v15.toInt ≤ 48 := by rw [e16]; exact Iv_53_2 i0
      refine And.intro (fun c19 => ?_) (fun c19 => ?_)
      · have c19 : v15.toInt ≤ w8.toInt := c19
        show s0 = s0 ∧ (True)
        exact ⟨rfl, (trivial)⟩
      · have c19 : ¬ (v15.toInt ≤ w8.toInt) := c19
        refine And.intro (Nat.le_of_ble_eq_true rfl) (And.intro ⟨53, w8, rfl, by decide, i0⟩ ?_)
        intro v20 s22 h21
        have h21 : s22 = s0 ∧ (True) := h21
        have q25 := h21.1.symm
        subst q25
        refine And.intro (Nat.le_of_ble_eq_true rfl) (And.intro ⟨w7, v20, rfl, trivial⟩ ?_)
        intro v26 s28 h27
        have h27 : s28 = s0 ∧ (w7.toInt ≤ v26.toInt ∧ v20.toInt ≤ v26.toInt ∧ (v26.toInt = w7.toInt ∨ v26.toInt = v20.toInt)) := h27
        have q31 := h27.1.symm
        subst q31
        have q32 := h27.2
        intro v33 e34
        have b35 := vg_add e34 (by omega) (by omega)
        exact ⟨rfl, ⟨v26, v33, rfl, (by omega), (by omega), rfl⟩, (by show (0 + (48 - v33.toInt) * 1000000000000).toNat < (0 + (48 - w8.toInt) * 1000000000000).toNat; omega)⟩
def o_X4_total : List vg_I := [(0, .lconst 0, 1, 0, 0, 0, 0), (1, .lstore_n 1, 1, 0, 0, 0, 0), (2, .iconst 0, 1, 0, 0, 0, 0), (3, .istore_n 3, 1, 0, 0, 0, 0), (4, .iload_n 3, 1, 0, 0, 0, 0), (5, .aload_n 0, 1, 0, 0, 0, 0), (6, .getfield 13, 3, 414, 4, 2, 0), (9, .if_icmp .ge 18, 3, 0, 0, 0, 0), (12, .lload_n 1, 1, 0, 0, 0, 0), (13, .aload_n 0, 1, 0, 0, 0, 0), (14, .iload_n 3, 1, 0, 0, 0, 0), (15, .invokevirtual 29, 3, 0, 4, 1, 829), (18, .i2l, 1, 0, 0, 0, 0), (19, .ladd, 1, 0, 0, 0, 0), (20, .lstore_n 1, 1, 0, 0, 0, 0), (21, .iinc 3 1, 3, 0, 0, 0, 0), (24, .goto (-20), 3, 0, 0, 0, 0), (27, .lload_n 1, 1, 0, 0, 0, 0), (28, .lreturn, 1, 0, 0, 0, 0)]
set_option maxRecDepth 100000 in
set_option maxHeartbeats 4000000 in
theorem c_X4_total (l : Launch) (G : vg_G) (hp : vg_Hp G) : vg_Ct l G vg_sh r_X4_total := by
  refine vg_meth hp vg_sh_ok r_X4_total k_X4_total rfl (fun h => by cases h) o_X4_total [r_X4_get] false (by decide +kernel) (by decide +kernel) ⟨_, _, rfl, rfl⟩ (List.forall_mem_cons.mpr ⟨⟨c_X4_get l G hp, Nat.le_of_ble_eq_true rfl, Nat.le_of_ble_eq_true rfl⟩, fun _ h => absurd h List.not_mem_nil⟩) (fun h => by cases h) 600 ?_
  intro as s0 hpre
  obtain ⟨r, rfl, hr, i0⟩ := hpre
  simp only [List.mem_cons, List.not_mem_nil, or_false] at hr
  rcases hr with rfl | rfl | rfl | rfl | rfl | rfl | rfl
  ·
    have z0 : (Int32.ofInt 0).toInt = 0 := by decide
    have z1 : (Int32.ofInt 1).toInt = 1 := by decide
    refine ⟨Nat.le_of_ble_eq_true rfl, [(4, [true, true, false, true], (fun L t => ∃ (x1 : Int64) (x3 : Int32), L = [some (.ref 41), some (.long x1), none, some (.int x3)] ∧ (0 : Int) ≤ x3.toInt ∧ x3.toInt ≤ (48 : Int) ∧ t = s0), (fun L _ => (0 + (48 - (vg_li L 3).toInt) * 1000000000000).toNat))], ?_, List.forall_mem_cons.mpr ⟨?_, fun _ h => absurd h List.not_mem_nil⟩⟩
    ·
      exact ⟨rfl, ⟨(Int64.ofNat 0), (Int32.ofInt 0), rfl, (by omega), (by omega), rfl⟩, trivial⟩
    ·
      intro L s5 hL
      obtain ⟨w1, w2, rfl, b3, b4, q8⟩ := hL
      have q8 := q8.symm
      subst q8
      intro v9 e10
      have g11 : s0.1 41 2 = v9 := by rw [e10]
      have b12 : (0 : Int) ≤ v9.toInt ∧ v9.toInt ≤ 48 := by rw [e10]; exact Iv_41_2 i0
      refine And.intro (fun c13 => ?_) (fun c13 => ?_)
      · have c13 : v9.toInt ≤ w2.toInt := c13
        show s0 = s0 ∧ (True)
        exact ⟨rfl, (trivial)⟩
      · have c13 : ¬ (v9.toInt ≤ w2.toInt) := c13
        refine And.intro (Nat.le_of_ble_eq_true rfl) (And.intro ⟨41, w2, rfl, by decide, i0⟩ ?_)
        intro v14 s16 h15
        have h15 : s16 = s0 ∧ (True) := h15
        have q19 := h15.1.symm
        subst q19
        intro v20 e21
        intro v22 e23
        intro v24 e25
        have b26 := vg_add e25 (by omega) (by omega)
        exact ⟨rfl, ⟨v22, v24, rfl, (by omega), (by omega), rfl⟩, (by show (0 + (48 - v24.toInt) * 1000000000000).toNat < (0 + (48 - w2.toInt) * 1000000000000).toNat; omega)⟩
  ·
    have z0 : (Int32.ofInt 0).toInt = 0 := by decide
    have z1 : (Int32.ofInt 1).toInt = 1 := by decide
    refine ⟨Nat.le_of_ble_eq_true rfl, [(4, [true, true, false, true], (fun L t => ∃ (x1 : Int64) (x3 : Int32), L = [some (.ref 43), some (.long x1), none, some (.int x3)] ∧ (0 : Int) ≤ x3.toInt ∧ x3.toInt ≤ (48 : Int) ∧ t = s0), (fun L _ => (0 + (48 - (vg_li L 3).toInt) * 1000000000000).toNat))], ?_, List.forall_mem_cons.mpr ⟨?_, fun _ h => absurd h List.not_mem_nil⟩⟩
    ·
      exact ⟨rfl, ⟨(Int64.ofNat 0), (Int32.ofInt 0), rfl, (by omega), (by omega), rfl⟩, trivial⟩
    ·
      intro L s5 hL
      obtain ⟨w1, w2, rfl, b3, b4, q8⟩ := hL
      have q8 := q8.symm
      subst q8
      intro v9 e10
      have g11 : s0.1 43 2 = v9 := by rw [e10]
      have b12 : (0 : Int) ≤ v9.toInt ∧ v9.toInt ≤ 48 := by rw [e10]; exact Iv_43_2 i0
      refine And.intro (fun c13 => ?_) (fun c13 => ?_)
      · have c13 : v9.toInt ≤ w2.toInt := c13
        show s0 = s0 ∧ (True)
        exact ⟨rfl, (trivial)⟩
      · have c13 : ¬ (v9.toInt ≤ w2.toInt) := c13
        refine And.intro (Nat.le_of_ble_eq_true rfl) (And.intro ⟨43, w2, rfl, by decide, i0⟩ ?_)
        intro v14 s16 h15
        have h15 : s16 = s0 ∧ (True) := h15
        have q19 := h15.1.symm
        subst q19
        intro v20 e21
        intro v22 e23
        intro v24 e25
        have b26 := vg_add e25 (by omega) (by omega)
        exact ⟨rfl, ⟨v22, v24, rfl, (by omega), (by omega), rfl⟩, (by show (0 + (48 - v24.toInt) * 1000000000000).toNat < (0 + (48 - w2.toInt) * 1000000000000).toNat; omega)⟩
  ·
    have z0 : (Int32.ofInt 0).toInt = 0 := by decide
    have z1 : (Int32.ofInt 1).toInt = 1 := by decide
    refine ⟨Nat.le_of_ble_eq_true rfl, [(4, [true, true, false, true], (fun L t => ∃ (x1 : Int64) (x3 : Int32), L = [some (.ref 45), some (.long x1), none, some (.int x3)] ∧ (0 : Int) ≤ x3.toInt ∧ x3.toInt ≤ (48 : Int) ∧ t = s0), (fun L _ => (0 + (48 - (vg_li L 3).toInt) * 1000000000000).toNat))], ?_, List.forall_mem_cons.mpr ⟨?_, fun _ h => absurd h List.not_mem_nil⟩⟩
    ·
      exact ⟨rfl, ⟨(Int64.ofNat 0), (Int32.ofInt 0), rfl, (by omega), (by omega), rfl⟩, trivial⟩
    ·
      intro L s5 hL
      obtain ⟨w1, w2, rfl, b3, b4, q8⟩ := hL
      have q8 := q8.symm
      subst q8
      intro v9 e10
      have g11 : s0.1 45 2 = v9 := by rw [e10]
      have b12 : (0 : Int) ≤ v9.toInt ∧ v9.toInt ≤ 48 := by rw [e10]; exact Iv_45_2 i0
      refine And.intro (fun c13 => ?_) (fun c13 => ?_)
      · have c13 : v9.toInt ≤ w2.toInt := c13
        show s0 = s0 ∧ (True)
        exact ⟨rfl, (trivial)⟩
      · have c13 : ¬ (v9.toInt ≤ w2.toInt) := c13
        refine And.intro (Nat.le_of_ble_eq_true rfl) (And.intro ⟨45, w2, rfl, by decide, i0⟩ ?_)
        intro v14 s16 h15
        have h15 : s16 = s0 ∧ (True) := h15
        have q19 := h15.1.symm
        subst q19
        intro v20 e21
        intro v22 e23
        intro v24 e25
        have b26 := vg_add e25 (by omega) (by omega)
        exact ⟨rfl, ⟨v22, v24, rfl, (by omega), (by omega), rfl⟩, (by show (0 + (48 - v24.toInt) * 1000000000000).toNat < (0 + (48 - w2.toInt) * 1000000000000).toNat; omega)⟩
  ·
    have z0 : (Int32.ofInt 0).toInt = 0 := by decide
    have z1 : (Int32.ofInt 1).toInt = 1 := by decide
    refine ⟨Nat.le_of_ble_eq_true rfl, [(4, [true, true, false, true], (fun L t => ∃ (x1 : Int64) (x3 : Int32), L = [some (.ref 47), some (.long x1), none, some (.int x3)] ∧ (0 : Int) ≤ x3.toInt ∧ x3.toInt ≤ (48 : Int) ∧ t = s0), (fun L _ => (0 + (48 - (vg_li L 3).toInt) * 1000000000000).toNat))], ?_, List.forall_mem_cons.mpr ⟨?_, fun _ h => absurd h List.not_mem_nil⟩⟩
    ·
      exact ⟨rfl, ⟨(Int64.ofNat 0), (Int32.ofInt 0), rfl, (by omega), (by omega), rfl⟩, trivial⟩
    ·
      intro L s5 hL
      obtain ⟨w1, w2, rfl, b3, b4, q8⟩ := hL
      have q8 := q8.symm
      subst q8
      intro v9 e10
      have g11 : s0.1 47 2 = v9 := by rw [e10]
      have b12 : (0 : Int) ≤ v9.toInt ∧ v9.toInt ≤ 48 := by rw [e10]; exact Iv_47_2 i0
      refine And.intro (fun c13 => ?_) (fun c13 => ?_)
      · have c13 : v9.toInt ≤ w2.toInt := c13
        show s0 = s0 ∧ (True)
        exact ⟨rfl, (trivial)⟩
      · have c13 : ¬ (v9.toInt ≤ w2.toInt) := c13
        refine And.intro (Nat.le_of_ble_eq_true rfl) (And.intro ⟨47, w2, rfl, by decide, i0⟩ ?_)
        intro v14 s16 h15
        have h15 : s16 = s0 ∧ (True) := h15
        have q19 := h15.1.symm
        subst q19
        intro v20 e21
        intro v22 e23
        intro v24 e25
        have b26 := vg_add e25 (by omega) (by omega)
        exact ⟨rfl, ⟨v22, v24, rfl, (by omega), (by omega), rfl⟩, (by show (0 + (48 - v24.toInt) * 1000000000000).toNat < (0 + (48 - w2.toInt) * 1000000000000).toNat; omega)⟩
  ·
    have z0 : (Int32.ofInt 0).toInt = 0 := by decide
    have z1 : (Int32.ofInt 1).toInt = 1 := by decide
    refine ⟨Nat.le_of_ble_eq_true rfl, [(4, [true, true, false, true], (fun L t => ∃ (x1 : Int64) (x3 : Int32), L = [some (.ref 49), some (.long x1), none, some (.int x3)] ∧ (0 : Int) ≤ x3.toInt ∧ x3.toInt ≤ (48 : Int) ∧ t = s0), (fun L _ => (0 + (48 - (vg_li L 3).toInt) * 1000000000000).toNat))], ?_, List.forall_mem_cons.mpr ⟨?_, fun _ h => absurd h List.not_mem_nil⟩⟩
    ·
      exact ⟨rfl, ⟨(Int64.ofNat 0), (Int32.ofInt 0), rfl, (by omega), (by omega), rfl⟩, trivial⟩
    ·
      intro L s5 hL
      obtain ⟨w1, w2, rfl, b3, b4, q8⟩ := hL
      have q8 := q8.symm
      subst q8
      intro v9 e10
      have g11 : s0.1 49 2 = v9 := by rw [e10]
      have b12 : (0 : Int) ≤ v9.toInt ∧ v9.toInt ≤ 48 := by rw [e10]; exact Iv_49_2 i0
      refine And.intro (fun c13 => ?_) (fun c13 => ?_)
      · have c13 : v9.toInt ≤ w2.toInt := c13
        show s0 = s0 ∧ (True)
        exact ⟨rfl, (trivial)⟩
      · have c13 : ¬ (v9.toInt ≤ w2.toInt) := c13
        refine And.intro (Nat.le_of_ble_eq_true rfl) (And.intro ⟨49, w2, rfl, by decide, i0⟩ ?_)
        intro v14 s16 h15
        have h15 : s16 = s0 ∧ (True) := h15
        have q19 := h15.1.symm
        subst q19
        intro v20 e21
        intro v22 e23
        intro v24 e25
        have b26 := vg_add e25 (by omega) (by omega)
        exact ⟨rfl, ⟨v22, v24, rfl, (by omega), (by omega), rfl⟩, (by show (0 + (48 - v24.toInt) * 1000000000000).toNat < (0 + (48 - w2.toInt) * 1000000000000).toNat; omega)⟩
  ·
    have z0 : (Int32.ofInt 0).toInt = 0 := by decide
    have z1 : (Int32.ofInt 1).toInt = 1 := by decide
    refine ⟨Nat.le_of_ble_eq_true rfl, [(4, [true, true, false, true], (fun L t => ∃ (x1 : Int64) (x3 : Int32), L = [some (.ref 51), some (.long x1), none, some (.int x3)] ∧ (0 : Int) ≤ x3.toInt ∧ x3.toInt ≤ (48 : Int) ∧ t = s0), (fun L _ => (0 + (48 - (vg_li L 3).toInt) * 1000000000000).toNat))], ?_, List.forall_mem_cons.mpr ⟨?_, fun _ h => absurd h List.not_mem_nil⟩⟩
    ·
      exact ⟨rfl, ⟨(Int64.ofNat 0), (Int32.ofInt 0), rfl, (by omega), (by omega), rfl⟩, trivial⟩
    ·
      intro L s5 hL
      obtain ⟨w1, w2, rfl, b3, b4, q8⟩ := hL
      have q8 := q8.symm
      subst q8
      intro v9 e10
      have g11 : s0.1 51 2 = v9 := by rw [e10]
      have b12 : (0 : Int) ≤ v9.toInt ∧ v9.toInt ≤ 48 := by rw [e10]; exact Iv_51_2 i0
      refine And.intro (fun c13 => ?_) (fun c13 => ?_)
      · have c13 : v9.toInt ≤ w2.toInt := c13
        show s0 = s0 ∧ (True)
        exact ⟨rfl, (trivial)⟩
      · have c13 : ¬ (v9.toInt ≤ w2.toInt) := c13
        refine And.intro (Nat.le_of_ble_eq_true rfl) (And.intro ⟨51, w2, rfl, by decide, i0⟩ ?_)
        intro v14 s16 h15
        have h15 : s16 = s0 ∧ (True) := h15
        have q19 := h15.1.symm
        subst q19
        intro v20 e21
        intro v22 e23
        intro v24 e25
        have b26 := vg_add e25 (by omega) (by omega)
        exact ⟨rfl, ⟨v22, v24, rfl, (by omega), (by omega), rfl⟩, (by show (0 + (48 - v24.toInt) * 1000000000000).toNat < (0 + (48 - w2.toInt) * 1000000000000).toNat; omega)⟩
  ·
    have z0 : (Int32.ofInt 0).toInt = 0 := by decide
    have z1 : (Int32.ofInt 1).toInt = 1 := by decide
    refine ⟨Nat.le_of_ble_eq_true rfl, [(4, [true, true, false, true], (fun L t => ∃ (x1 : Int64) (x3 : Int32), L = [some (.ref 53), some (.long x1), none, some (.int x3)] ∧ (0 : Int) ≤ x3.toInt ∧ x3.toInt ≤ (48 : Int) ∧ t = s0), (fun L _ => (0 + (48 - (vg_li L 3).toInt) * 1000000000000).toNat))], ?_, List.forall_mem_cons.mpr ⟨?_, fun _ h => absurd h List.not_mem_nil⟩⟩
    ·
      exact ⟨rfl, ⟨(Int64.ofNat 0), (Int32.ofInt 0), rfl, (by omega), (by omega), rfl⟩, trivial⟩
    ·
      intro L s5 hL
      obtain ⟨w1, w2, rfl, b3, b4, q8⟩ := hL
      have q8 := q8.symm
      subst q8
      intro v9 e10
      have g11 : s0.1 53 2 = v9 := by rw [e10]
      have b12 : (0 : Int) ≤ v9.toInt ∧ v9.toInt ≤ 48 := by rw [e10]; exact Iv_53_2 i0
      refine And.intro (fun c13 => ?_) (fun c13 => ?_)
      · have c13 : v9.toInt ≤ w2.toInt := c13
        show s0 = s0 ∧ (True)
        exact ⟨rfl, (trivial)⟩
      · have c13 : ¬ (v9.toInt ≤ w2.toInt) := c13
        refine And.intro (Nat.le_of_ble_eq_true rfl) (And.intro ⟨53, w2, rfl, by decide, i0⟩ ?_)
        intro v14 s16 h15
        have h15 : s16 = s0 ∧ (True) := h15
        have q19 := h15.1.symm
        subst q19
        intro v20 e21
        intro v22 e23
        intro v24 e25
        have b26 := vg_add e25 (by omega) (by omega)
        exact ⟨rfl, ⟨v22, v24, rfl, (by omega), (by omega), rfl⟩, (by show (0 + (48 - v24.toInt) * 1000000000000).toNat < (0 + (48 - w2.toInt) * 1000000000000).toNat; omega)⟩
def o_X4_nearLatest : List vg_I := [(0, .iconst 0, 1, 0, 0, 0, 0), (1, .istore_n 2, 1, 0, 0, 0, 0), (2, .iload_n 2, 1, 0, 0, 0, 0), (3, .aload_n 0, 1, 0, 0, 0, 0), (4, .getfield 13, 3, 414, 4, 2, 0), (7, .if_icmp .ge 31, 3, 0, 0, 0, 0), (10, .aload_n 0, 1, 0, 0, 0, 0), (11, .iload_n 2, 1, 0, 0, 0, 0), (12, .invokevirtual 29, 3, 0, 4, 1, 829), (15, .i2l, 1, 0, 0, 0, 0), (16, .aload_n 0, 1, 0, 0, 0, 0), (17, .iconst 0, 1, 0, 0, 0, 0), (18, .invokevirtual 29, 3, 0, 4, 1, 829), (21, .i2l, 1, 0, 0, 0, 0), (22, .lsub, 1, 0, 0, 0, 0), (23, .invokestatic 36, 3, 1, 1, 1, 847), (26, .iload_n 1, 1, 0, 0, 0, 0), (27, .i2l, 1, 0, 0, 0, 0), (28, .lcmp, 1, 0, 0, 0, 0), (29, .ifCond .gt 9, 3, 0, 0, 0, 0), (32, .iinc 2 1, 3, 0, 0, 0, 0), (35, .goto (-33), 3, 0, 0, 0, 0), (38, .iload_n 2, 1, 0, 0, 0, 0), (39, .ireturn, 1, 0, 0, 0, 0)]
set_option maxRecDepth 100000 in
set_option maxHeartbeats 4000000 in
theorem c_X4_nearLatest (l : Launch) (G : vg_G) (hp : vg_Hp G) : vg_Ct l G vg_sh r_X4_nearLatest := by
  refine vg_meth hp vg_sh_ok r_X4_nearLatest k_X4_nearLatest rfl (fun h => by cases h) o_X4_nearLatest [r_X4_get, r_J9_abs_067f4] false (by decide +kernel) (by decide +kernel) ⟨_, _, rfl, rfl⟩ (List.forall_mem_cons.mpr ⟨⟨c_X4_get l G hp, Nat.le_of_ble_eq_true rfl, Nat.le_of_ble_eq_true rfl⟩, List.forall_mem_cons.mpr ⟨⟨c_J9_abs_067f4 l G hp, Nat.le_of_ble_eq_true rfl, Nat.le_of_ble_eq_true rfl⟩, fun _ h => absurd h List.not_mem_nil⟩⟩) (fun h => by cases h) 600 ?_
  intro as s0 hpre
  obtain ⟨r, a1, rfl, hr, i0⟩ := hpre
  simp only [List.mem_cons, List.not_mem_nil, or_false] at hr
  rcases hr with rfl | rfl | rfl | rfl | rfl | rfl | rfl
  ·
    have z0 : (Int32.ofInt 0).toInt = 0 := by decide
    have z1 : (Int32.ofInt 1).toInt = 1 := by decide
    refine ⟨Nat.le_of_ble_eq_true rfl, [(2, [true, true, true], (fun L t => ∃ (x2 : Int32), L = [some (.ref 41), some (.int a1), some (.int x2)] ∧ (0 : Int) ≤ x2.toInt ∧ x2.toInt ≤ (48 : Int) ∧ t = s0), (fun L _ => (0 + (48 - (vg_li L 2).toInt) * 1000000000000).toNat))], ?_, List.forall_mem_cons.mpr ⟨?_, fun _ h => absurd h List.not_mem_nil⟩⟩
    ·
      exact ⟨rfl, ⟨(Int32.ofInt 0), rfl, (by omega), (by omega), rfl⟩, trivial⟩
    ·
      intro L s4 hL
      obtain ⟨w1, rfl, b2, b3, q7⟩ := hL
      have q7 := q7.symm
      subst q7
      intro v8 e9
      have g10 : s0.1 41 2 = v8 := by rw [e9]
      have b11 : (0 : Int) ≤ v8.toInt ∧ v8.toInt ≤ 48 := by rw [e9]; exact Iv_41_2 i0
      refine And.intro (fun c12 => ?_) (fun c12 => ?_)
      · have c12 : v8.toInt ≤ w1.toInt := c12
        show s0 = s0 ∧ (True)
        exact ⟨rfl, (trivial)⟩
      · have c12 : ¬ (v8.toInt ≤ w1.toInt) := c12
        refine And.intro (Nat.le_of_ble_eq_true rfl) (And.intro ⟨41, w1, rfl, by decide, i0⟩ ?_)
        intro v13 s15 h14
        have h14 : s15 = s0 ∧ (True) := h14
        have q18 := h14.1.symm
        subst q18
        intro v19 e20
        refine And.intro (Nat.le_of_ble_eq_true rfl) (And.intro ⟨41, (Int32.ofInt 0), rfl, by decide, i0⟩ ?_)
        intro v21 s23 h22
        have h22 : s23 = s0 ∧ (True) := h22
        have q26 := h22.1.symm
        subst q26
        intro v27 e28
        intro v29 e30
        refine And.intro (Nat.le_of_ble_eq_true rfl) (And.intro ⟨v29, rfl, trivial⟩ ?_)
        intro v31 s33 h32
        have h32 : s33 = s0 ∧ (True) := h32
        have q36 := h32.1.symm
        subst q36
        intro v37 e38
        intro v39 e40
        refine And.intro (fun c41 => ?_) (fun c41 => ?_)
        · have c41 : 0 < v39.toInt := c41
          show s0 = s0 ∧ (True)
          exact ⟨rfl, (trivial)⟩
        · have c41 : ¬ (0 < v39.toInt) := c41
          intro v42 e43
          have b44 := vg_add e43 (by omega) (by omega)
          exact ⟨rfl, ⟨v42, rfl, (by omega), (by omega), rfl⟩, (by show (0 + (48 - v42.toInt) * 1000000000000).toNat < (0 + (48 - w1.toInt) * 1000000000000).toNat; omega)⟩
  ·
    have z0 : (Int32.ofInt 0).toInt = 0 := by decide
    have z1 : (Int32.ofInt 1).toInt = 1 := by decide
    refine ⟨Nat.le_of_ble_eq_true rfl, [(2, [true, true, true], (fun L t => ∃ (x2 : Int32), L = [some (.ref 43), some (.int a1), some (.int x2)] ∧ (0 : Int) ≤ x2.toInt ∧ x2.toInt ≤ (48 : Int) ∧ t = s0), (fun L _ => (0 + (48 - (vg_li L 2).toInt) * 1000000000000).toNat))], ?_, List.forall_mem_cons.mpr ⟨?_, fun _ h => absurd h List.not_mem_nil⟩⟩
    ·
      exact ⟨rfl, ⟨(Int32.ofInt 0), rfl, (by omega), (by omega), rfl⟩, trivial⟩
    ·
      intro L s4 hL
      obtain ⟨w1, rfl, b2, b3, q7⟩ := hL
      have q7 := q7.symm
      subst q7
      intro v8 e9
      have g10 : s0.1 43 2 = v8 := by rw [e9]
      have b11 : (0 : Int) ≤ v8.toInt ∧ v8.toInt ≤ 48 := by rw [e9]; exact Iv_43_2 i0
      refine And.intro (fun c12 => ?_) (fun c12 => ?_)
      · have c12 : v8.toInt ≤ w1.toInt := c12
        show s0 = s0 ∧ (True)
        exact ⟨rfl, (trivial)⟩
      · have c12 : ¬ (v8.toInt ≤ w1.toInt) := c12
        refine And.intro (Nat.le_of_ble_eq_true rfl) (And.intro ⟨43, w1, rfl, by decide, i0⟩ ?_)
        intro v13 s15 h14
        have h14 : s15 = s0 ∧ (True) := h14
        have q18 := h14.1.symm
        subst q18
        intro v19 e20
        refine And.intro (Nat.le_of_ble_eq_true rfl) (And.intro ⟨43, (Int32.ofInt 0), rfl, by decide, i0⟩ ?_)
        intro v21 s23 h22
        have h22 : s23 = s0 ∧ (True) := h22
        have q26 := h22.1.symm
        subst q26
        intro v27 e28
        intro v29 e30
        refine And.intro (Nat.le_of_ble_eq_true rfl) (And.intro ⟨v29, rfl, trivial⟩ ?_)
        intro v31 s33 h32
        have h32 : s33 = s0 ∧ (True) := h32
        have q36 := h32.1.symm
        subst q36
        intro v37 e38
        intro v39 e40
        refine And.intro (fun c41 => ?_) (fun c41 => ?_)
        · have c41 : 0 < v39.toInt := c41
          show s0 = s0 ∧ (True)
          exact ⟨rfl, (trivial)⟩
        · have c41 : ¬ (0 < v39.toInt) := c41
          intro v42 e43
          have b44 := vg_add e43 (by omega) (by omega)
          exact ⟨rfl, ⟨v42, rfl, (by omega), (by omega), rfl⟩, (by show (0 + (48 - v42.toInt) * 1000000000000).toNat < (0 + (48 - w1.toInt) * 1000000000000).toNat; omega)⟩
  ·
    have z0 : (Int32.ofInt 0).toInt = 0 := by decide
    have z1 : (Int32.ofInt 1).toInt = 1 := by decide
    refine ⟨Nat.le_of_ble_eq_true rfl, [(2, [true, true, true], (fun L t => ∃ (x2 : Int32), L = [some (.ref 45), some (.int a1), some (.int x2)] ∧ (0 : Int) ≤ x2.toInt ∧ x2.toInt ≤ (48 : Int) ∧ t = s0), (fun L _ => (0 + (48 - (vg_li L 2).toInt) * 1000000000000).toNat))], ?_, List.forall_mem_cons.mpr ⟨?_, fun _ h => absurd h List.not_mem_nil⟩⟩
    ·
      exact ⟨rfl, ⟨(Int32.ofInt 0), rfl, (by omega), (by omega), rfl⟩, trivial⟩
    ·
      intro L s4 hL
      obtain ⟨w1, rfl, b2, b3, q7⟩ := hL
      have q7 := q7.symm
      subst q7
      intro v8 e9
      have g10 : s0.1 45 2 = v8 := by rw [e9]
      have b11 : (0 : Int) ≤ v8.toInt ∧ v8.toInt ≤ 48 := by rw [e9]; exact Iv_45_2 i0
      refine And.intro (fun c12 => ?_) (fun c12 => ?_)
      · have c12 : v8.toInt ≤ w1.toInt := c12
        show s0 = s0 ∧ (True)
        exact ⟨rfl, (trivial)⟩
      · have c12 : ¬ (v8.toInt ≤ w1.toInt) := c12
        refine And.intro (Nat.le_of_ble_eq_true rfl) (And.intro ⟨45, w1, rfl, by decide, i0⟩ ?_)
        intro v13 s15 h14
        have h14 : s15 = s0 ∧ (True) := h14
        have q18 := h14.1.symm
        subst q18
        intro v19 e20
        refine And.intro (Nat.le_of_ble_eq_true rfl) (And.intro ⟨45, (Int32.ofInt 0), rfl, by decide, i0⟩ ?_)
        intro v21 s23 h22
        have h22 : s23 = s0 ∧ (True) := h22
        have q26 := h22.1.symm
        subst q26
        intro v27 e28
        intro v29 e30
        refine And.intro (Nat.le_of_ble_eq_true rfl) (And.intro ⟨v29, rfl, trivial⟩ ?_)
        intro v31 s33 h32
        have h32 : s33 = s0 ∧ (True) := h32
        have q36 := h32.1.symm
        subst q36
        intro v37 e38
        intro v39 e40
        refine And.intro (fun c41 => ?_) (fun c41 => ?_)
        · have c41 : 0 < v39.toInt := c41
          show s0 = s0 ∧ (True)
          exact ⟨rfl, (trivial)⟩
        · have c41 : ¬ (0 < v39.toInt) := c41
          intro v42 e43
          have b44 := vg_add e43 (by omega) (by omega)
          exact ⟨rfl, ⟨v42, rfl, (by omega), (by omega), rfl⟩, (by show (0 + (48 - v42.toInt) * 1000000000000).toNat < (0 + (48 - w1.toInt) * 1000000000000).toNat; omega)⟩
  ·
    have z0 : (Int32.ofInt 0).toInt = 0 := by decide
    have z1 : (Int32.ofInt 1).toInt = 1 := by decide
    refine ⟨Nat.le_of_ble_eq_true rfl, [(2, [true, true, true], (fun L t => ∃ (x2 : Int32), L = [some (.ref 47), some (.int a1), some (.int x2)] ∧ (0 : Int) ≤ x2.toInt ∧ x2.toInt ≤ (48 : Int) ∧ t = s0), (fun L _ => (0 + (48 - (vg_li L 2).toInt) * 1000000000000).toNat))], ?_, List.forall_mem_cons.mpr ⟨?_, fun _ h => absurd h List.not_mem_nil⟩⟩
    ·
      exact ⟨rfl, ⟨(Int32.ofInt 0), rfl, (by omega), (by omega), rfl⟩, trivial⟩
    ·
      intro L s4 hL
      obtain ⟨w1, rfl, b2, b3, q7⟩ := hL
      have q7 := q7.symm
      subst q7
      intro v8 e9
      have g10 : s0.1 47 2 = v8 := by rw [e9]
      have b11 : (0 : Int) ≤ v8.toInt ∧ v8.toInt ≤ 48 := by rw [e9]; exact Iv_47_2 i0
      refine And.intro (fun c12 => ?_) (fun c12 => ?_)
      · have c12 : v8.toInt ≤ w1.toInt := c12
        show s0 = s0 ∧ (True)
        exact ⟨rfl, (trivial)⟩
      · have c12 : ¬ (v8.toInt ≤ w1.toInt) := c12
        refine And.intro (Nat.le_of_ble_eq_true rfl) (And.intro ⟨47, w1, rfl, by decide, i0⟩ ?_)
        intro v13 s15 h14
        have h14 : s15 = s0 ∧ (True) := h14
        have q18 := h14.1.symm
        subst q18
        intro v19 e20
        refine And.intro (Nat.le_of_ble_eq_true rfl) (And.intro ⟨47, (Int32.ofInt 0), rfl, by decide, i0⟩ ?_)
        intro v21 s23 h22
        have h22 : s23 = s0 ∧ (True) := h22
        have q26 := h22.1.symm
        subst q26
        intro v27 e28
        intro v29 e30
        refine And.intro (Nat.le_of_ble_eq_true rfl) (And.intro ⟨v29, rfl, trivial⟩ ?_)
        intro v31 s33 h32
        have h32 : s33 = s0 ∧ (True) := h32
        have q36 := h32.1.symm
        subst q36
        intro v37 e38
        intro v39 e40
        refine And.intro (fun c41 => ?_) (fun c41 => ?_)
        · have c41 : 0 < v39.toInt := c41
          show s0 = s0 ∧ (True)
          exact ⟨rfl, (trivial)⟩
        · have c41 : ¬ (0 < v39.toInt) := c41
          intro v42 e43
          have b44 := vg_add e43 (by omega) (by omega)
          exact ⟨rfl, ⟨v42, rfl, (by omega), (by omega), rfl⟩, (by show (0 + (48 - v42.toInt) * 1000000000000).toNat < (0 + (48 - w1.toInt) * 1000000000000).toNat; omega)⟩
  ·
    have z0 : (Int32.ofInt 0).toInt = 0 := by decide
    have z1 : (Int32.ofInt 1).toInt = 1 := by decide
    refine ⟨Nat.le_of_ble_eq_true rfl, [(2, [true, true, true], (fun L t => ∃ (x2 : Int32), L = [some (.ref 49), some (.int a1), some (.int x2)] ∧ (0 : Int) ≤ x2.toInt ∧ x2.toInt ≤ (48 : Int) ∧ t = s0), (fun L _ => (0 + (48 - (vg_li L 2).toInt) * 1000000000000).toNat))], ?_, List.forall_mem_cons.mpr ⟨?_, fun _ h => absurd h List.not_mem_nil⟩⟩
    ·
      exact ⟨rfl, ⟨(Int32.ofInt 0), rfl, (by omega), (by omega), rfl⟩, trivial⟩
    ·
      intro L s4 hL
      obtain ⟨w1, rfl, b2, b3, q7⟩ := hL
      have q7 := q7.symm
      subst q7
      intro v8 e9
      have g10 : s0.1 49 2 = v8 := by rw [e9]
      have b11 : (0 : Int) ≤ v8.toInt ∧ v8.toInt ≤ 48 := by rw [e9]; exact Iv_49_2 i0
      refine And.intro (fun c12 => ?_) (fun c12 => ?_)
      · have c12 : v8.toInt ≤ w1.toInt := c12
        show s0 = s0 ∧ (True)
        exact ⟨rfl, (trivial)⟩
      · have c12 : ¬ (v8.toInt ≤ w1.toInt) := c12
        refine And.intro (Nat.le_of_ble_eq_true rfl) (And.intro ⟨49, w1, rfl, by decide, i0⟩ ?_)
        intro v13 s15 h14
        have h14 : s15 = s0 ∧ (True) := h14
        have q18 := h14.1.symm
        subst q18
        intro v19 e20
        refine And.intro (Nat.le_of_ble_eq_true rfl) (And.intro ⟨49, (Int32.ofInt 0), rfl, by decide, i0⟩ ?_)
        intro v21 s23 h22
        have h22 : s23 = s0 ∧ (True) := h22
        have q26 := h22.1.symm
        subst q26
        intro v27 e28
        intro v29 e30
        refine And.intro (Nat.le_of_ble_eq_true rfl) (And.intro ⟨v29, rfl, trivial⟩ ?_)
        intro v31 s33 h32
        have h32 : s33 = s0 ∧ (True) := h32
        have q36 := h32.1.symm
        subst q36
        intro v37 e38
        intro v39 e40
        refine And.intro (fun c41 => ?_) (fun c41 => ?_)
        · have c41 : 0 < v39.toInt := c41
          show s0 = s0 ∧ (True)
          exact ⟨rfl, (trivial)⟩
        · have c41 : ¬ (0 < v39.toInt) := c41
          intro v42 e43
          have b44 := vg_add e43 (by omega) (by omega)
          exact ⟨rfl, ⟨v42, rfl, (by omega), (by omega), rfl⟩, (by show (0 + (48 - v42.toInt) * 1000000000000).toNat < (0 + (48 - w1.toInt) * 1000000000000).toNat; omega)⟩
  ·
    have z0 : (Int32.ofInt 0).toInt = 0 := by decide
    have z1 : (Int32.ofInt 1).toInt = 1 := by decide
    refine ⟨Nat.le_of_ble_eq_true rfl, [(2, [true, true, true], (fun L t => ∃ (x2 : Int32), L = [some (.ref 51), some (.int a1), some (.int x2)] ∧ (0 : Int) ≤ x2.toInt ∧ x2.toInt ≤ (48 : Int) ∧ t = s0), (fun L _ => (0 + (48 - (vg_li L 2).toInt) * 1000000000000).toNat))], ?_, List.forall_mem_cons.mpr ⟨?_, fun _ h => absurd h List.not_mem_nil⟩⟩
    ·
      exact ⟨rfl, ⟨(Int32.ofInt 0), rfl, (by omega), (by omega), rfl⟩, trivial⟩
    ·
      intro L s4 hL
      obtain ⟨w1, rfl, b2, b3, q7⟩ := hL
      have q7 := q7.symm
      subst q7
      intro v8 e9
      have g10 : s0.1 51 2 = v8 := by rw [e9]
      have b11 : (0 : Int) ≤ v8.toInt ∧ v8.toInt ≤ 48 := by rw [e9]; exact Iv_51_2 i0
      refine And.intro (fun c12 => ?_) (fun c12 => ?_)
      · have c12 : v8.toInt ≤ w1.toInt := c12
        show s0 = s0 ∧ (True)
        exact ⟨rfl, (trivial)⟩
      · have c12 : ¬ (v8.toInt ≤ w1.toInt) := c12
        refine And.intro (Nat.le_of_ble_eq_true rfl) (And.intro ⟨51, w1, rfl, by decide, i0⟩ ?_)
        intro v13 s15 h14
        have h14 : s15 = s0 ∧ (True) := h14
        have q18 := h14.1.symm
        subst q18
        intro v19 e20
        refine And.intro (Nat.le_of_ble_eq_true rfl) (And.intro ⟨51, (Int32.ofInt 0), rfl, by decide, i0⟩ ?_)
        intro v21 s23 h22
        have h22 : s23 = s0 ∧ (True) := h22
        have q26 := h22.1.symm
        subst q26
        intro v27 e28
        intro v29 e30
        refine And.intro (Nat.le_of_ble_eq_true rfl) (And.intro ⟨v29, rfl, trivial⟩ ?_)
        intro v31 s33 h32
        have h32 : s33 = s0 ∧ (True) := h32
        have q36 := h32.1.symm
        subst q36
        intro v37 e38
        intro v39 e40
        refine And.intro (fun c41 => ?_) (fun c41 => ?_)
        · have c41 : 0 < v39.toInt := c41
          show s0 = s0 ∧ (True)
          exact ⟨rfl, (trivial)⟩
        · have c41 : ¬ (0 < v39.toInt) := c41
          intro v42 e43
          have b44 := vg_add e43 (by omega) (by omega)
          exact ⟨rfl, ⟨v42, rfl, (by omega), (by omega), rfl⟩, (by show (0 + (48 - v42.toInt) * 1000000000000).toNat < (0 + (48 - w1.toInt) * 1000000000000).toNat; omega)⟩
  ·
    have z0 : (Int32.ofInt 0).toInt = 0 := by decide
    have z1 : (Int32.ofInt 1).toInt = 1 := by decide
    refine ⟨Nat.le_of_ble_eq_true rfl, [(2, [true, true, true], (fun L t => ∃ (x2 : Int32), L = [some (.ref 53), some (.int a1), some (.int x2)] ∧ (0 : Int) ≤ x2.toInt ∧ x2.toInt ≤ (48 : Int) ∧ t = s0), (fun L _ => (0 + (48 - (vg_li L 2).toInt) * 1000000000000).toNat))], ?_, List.forall_mem_cons.mpr ⟨?_, fun _ h => absurd h List.not_mem_nil⟩⟩
    ·
      exact ⟨rfl, ⟨(Int32.ofInt 0), rfl, (by omega), (by omega), rfl⟩, trivial⟩
    ·
      intro L s4 hL
      obtain ⟨w1, rfl, b2, b3, q7⟩ := hL
      have q7 := q7.symm
      subst q7
      intro v8 e9
      have g10 : s0.1 53 2 = v8 := by rw [e9]
      have b11 : (0 : Int) ≤ v8.toInt ∧ v8.toInt ≤ 48 := by rw [e9]; exact Iv_53_2 i0
      refine And.intro (fun c12 => ?_) (fun c12 => ?_)
      · have c12 : v8.toInt ≤ w1.toInt := c12
        show s0 = s0 ∧ (True)
        exact ⟨rfl, (trivial)⟩
      · have c12 : ¬ (v8.toInt ≤ w1.toInt) := c12
        refine And.intro (Nat.le_of_ble_eq_true rfl) (And.intro ⟨53, w1, rfl, by decide, i0⟩ ?_)
        intro v13 s15 h14
        have h14 : s15 = s0 ∧ (True) := h14
        have q18 := h14.1.symm
        subst q18
        intro v19 e20
        refine And.intro (Nat.le_of_ble_eq_true rfl) (And.intro ⟨53, (Int32.ofInt 0), rfl, by decide, i0⟩ ?_)
        intro v21 s23 h22
        have h22 : s23 = s0 ∧ (True) := h22
        have q26 := h22.1.symm
        subst q26
        intro v27 e28
        intro v29 e30
        refine And.intro (Nat.le_of_ble_eq_true rfl) (And.intro ⟨v29, rfl, trivial⟩ ?_)
        intro v31 s33 h32
        have h32 : s33 = s0 ∧ (True) := h32
        have q36 := h32.1.symm
        subst q36
        intro v37 e38
        intro v39 e40
        refine And.intro (fun c41 => ?_) (fun c41 => ?_)
        · have c41 : 0 < v39.toInt := c41
          show s0 = s0 ∧ (True)
          exact ⟨rfl, (trivial)⟩
        · have c41 : ¬ (0 < v39.toInt) := c41
          intro v42 e43
          have b44 := vg_add e43 (by omega) (by omega)
          exact ⟨rfl, ⟨v42, rfl, (by omega), (by omega), rfl⟩, (by show (0 + (48 - v42.toInt) * 1000000000000).toNat < (0 + (48 - w1.toInt) * 1000000000000).toNat; omega)⟩
def o_X4_beatOf : List vg_I := [(0, .aload_n 0, 1, 0, 0, 0, 0), (1, .getfield 13, 3, 414, 4, 2, 0), (4, .i2l, 1, 0, 0, 0, 0), (5, .lstore_n 2, 1, 0, 0, 0, 0), (6, .aload_n 0, 1, 0, 0, 0, 0), (7, .invokevirtual 40, 3, 0, 4, 0, 927), (10, .lstore 4, 2, 0, 0, 0, 0), (12, .lconst 0, 1, 0, 0, 0, 0), (13, .lstore 6, 2, 0, 0, 0, 0), (15, .iconst 0, 1, 0, 0, 0, 0), (16, .istore 8, 2, 0, 0, 0, 0), (18, .iload 8, 2, 0, 0, 0, 0), (20, .iload_n 1, 1, 0, 0, 0, 0), (21, .iadd, 1, 0, 0, 0, 0), (22, .aload_n 0, 1, 0, 0, 0, 0), (23, .getfield 13, 3, 414, 4, 2, 0), (26, .if_icmp .ge 41, 3, 0, 0, 0, 0), (29, .lload 6, 2, 0, 0, 0, 0), (31, .lload_n 2, 1, 0, 0, 0, 0), (32, .aload_n 0, 1, 0, 0, 0, 0), (33, .iload 8, 2, 0, 0, 0, 0), (35, .invokevirtual 29, 3, 1, 4, 1, 829), (38, .i2l, 1, 0, 0, 0, 0), (39, .lmul, 1, 0, 0, 0, 0), (40, .lload 4, 2, 0, 0, 0, 0), (42, .lsub, 1, 0, 0, 0, 0), (43, .lload_n 2, 1, 0, 0, 0, 0), (44, .aload_n 0, 1, 0, 0, 0, 0), (45, .iload 8, 2, 0, 0, 0, 0), (47, .iload_n 1, 1, 0, 0, 0, 0), (48, .iadd, 1, 0, 0, 0, 0), (49, .invokevirtual 29, 3, 1, 4, 1, 829), (52, .i2l, 1, 0, 0, 0, 0), (53, .lmul, 1, 0, 0, 0, 0), (54, .lload 4, 2, 0, 0, 0, 0), (56, .lsub, 1, 0, 0, 0, 0), (57, .lmul, 1, 0, 0, 0, 0), (58, .ladd, 1, 0, 0, 0, 0), (59, .lstore 6, 2, 0, 0, 0, 0), (61, .iinc 8 1, 3, 0, 0, 0, 0), (64, .goto (-46), 3, 0, 0, 0, 0), (67, .lload 6, 2, 0, 0, 0, 0), (69, .lreturn, 1, 0, 0, 0, 0)]
set_option maxRecDepth 100000 in
set_option maxHeartbeats 4000000 in
theorem c_X4_beatOf (l : Launch) (G : vg_G) (hp : vg_Hp G) : vg_Ct l G vg_sh r_X4_beatOf := by
  refine vg_meth hp vg_sh_ok r_X4_beatOf k_X4_beatOf rfl (fun h => by cases h) o_X4_beatOf [r_X4_total, r_X4_get] false (by decide +kernel) (by decide +kernel) ⟨_, _, rfl, rfl⟩ (List.forall_mem_cons.mpr ⟨⟨c_X4_total l G hp, Nat.le_of_ble_eq_true rfl, Nat.le_of_ble_eq_true rfl⟩, List.forall_mem_cons.mpr ⟨⟨c_X4_get l G hp, Nat.le_of_ble_eq_true rfl, Nat.le_of_ble_eq_true rfl⟩, fun _ h => absurd h List.not_mem_nil⟩⟩) (fun h => by cases h) 600 ?_
  intro as s0 hpre
  obtain ⟨r, a1, rfl, hr, i0, p0⟩ := hpre
  simp only [List.mem_cons, List.not_mem_nil, or_false] at hr
  rcases hr with rfl | rfl | rfl | rfl | rfl | rfl | rfl
  ·
    have z0 : (Int32.ofInt 0).toInt = 0 := by decide
    have z1 : (Int32.ofInt 1).toInt = 1 := by decide
    refine ⟨Nat.le_of_ble_eq_true rfl, [(18, [true, true, true, false, true, false, true, false, true], (fun L t => ∃ (x2 : Int64) (x4 : Int64) (x6 : Int64) (x8 : Int32), L = [some (.ref 41), some (.int a1), some (.long x2), none, some (.long x4), none, some (.long x6), none, some (.int x8)] ∧ (0 : Int) ≤ x8.toInt ∧ x8.toInt ≤ (48 : Int) ∧ t = s0), (fun L _ => (48 - (vg_li L 8).toInt).toNat))], ?_, List.forall_mem_cons.mpr ⟨?_, fun _ h => absurd h List.not_mem_nil⟩⟩
    ·
      intro v1 e2
      have g3 : s0.1 41 2 = v1 := by rw [e2]
      have b4 : (0 : Int) ≤ v1.toInt ∧ v1.toInt ≤ 48 := by rw [e2]; exact Iv_41_2 i0
      intro v5 e6
      have b7 := vg_i2l e6
      refine And.intro (Nat.le_of_ble_eq_true rfl) (And.intro ⟨41, rfl, by decide, i0⟩ ?_)
      intro v8 s10 h9
      have h9 : s10 = s0 ∧ (True) := h9
      have q13 := h9.1.symm
      subst q13
      exact ⟨rfl, ⟨v5, v8, (Int64.ofNat 0), (Int32.ofInt 0), rfl, (by omega), (by omega), rfl⟩, trivial⟩
    ·
      intro L s20 hL
      obtain ⟨w14, w15, w16, w17, rfl, b18, b19, q23⟩ := hL
      have q23 := q23.symm
      subst q23
      intro v24 e25
      have b26 := vg_add e25 (by omega) (by omega)
      intro v27 e28
      have g29 : s0.1 41 2 = v27 := by rw [e28]
      have b30 : (0 : Int) ≤ v27.toInt ∧ v27.toInt ≤ 48 := by rw [e28]; exact Iv_41_2 i0
      refine And.intro (fun c31 => ?_) (fun c31 => ?_)
      · have c31 : v27.toInt ≤ v24.toInt := c31
        show s0 = s0 ∧ (True)
        exact ⟨rfl, (trivial)⟩
      · have c31 : ¬ (v27.toInt ≤ v24.toInt) := c31
        refine And.intro (Nat.le_of_ble_eq_true rfl) (And.intro ⟨41, w17, rfl, by decide, i0⟩ ?_)
        intro v32 s34 h33
        have h33 : s34 = s0 ∧ (True) := h33
        have q37 := h33.1.symm
        subst q37
        intro v38 e39
        intro v40 e41
        intro v42 e43
        intro v44 e45
        have b46 := vg_add e45 (by omega) (by omega)
        refine And.intro (Nat.le_of_ble_eq_true rfl) (And.intro ⟨41, v44, rfl, by decide, i0⟩ ?_)
        intro v47 s49 h48
        have h48 : s49 = s0 ∧ (True) := h48
        have q52 := h48.1.symm
        subst q52
        intro v53 e54
        intro v55 e56
        intro v57 e58
        intro v59 e60
        intro v61 e62
        intro v63 e64
        have b65 := vg_add e64 (by omega) (by omega)
        exact ⟨rfl, ⟨w14, w15, v61, v63, rfl, (by omega), (by omega), rfl⟩, (by show (48 - v63.toInt).toNat < (48 - w17.toInt).toNat; omega)⟩
  ·
    have z0 : (Int32.ofInt 0).toInt = 0 := by decide
    have z1 : (Int32.ofInt 1).toInt = 1 := by decide
    refine ⟨Nat.le_of_ble_eq_true rfl, [(18, [true, true, true, false, true, false, true, false, true], (fun L t => ∃ (x2 : Int64) (x4 : Int64) (x6 : Int64) (x8 : Int32), L = [some (.ref 43), some (.int a1), some (.long x2), none, some (.long x4), none, some (.long x6), none, some (.int x8)] ∧ (0 : Int) ≤ x8.toInt ∧ x8.toInt ≤ (48 : Int) ∧ t = s0), (fun L _ => (48 - (vg_li L 8).toInt).toNat))], ?_, List.forall_mem_cons.mpr ⟨?_, fun _ h => absurd h List.not_mem_nil⟩⟩
    ·
      intro v1 e2
      have g3 : s0.1 43 2 = v1 := by rw [e2]
      have b4 : (0 : Int) ≤ v1.toInt ∧ v1.toInt ≤ 48 := by rw [e2]; exact Iv_43_2 i0
      intro v5 e6
      have b7 := vg_i2l e6
      refine And.intro (Nat.le_of_ble_eq_true rfl) (And.intro ⟨43, rfl, by decide, i0⟩ ?_)
      intro v8 s10 h9
      have h9 : s10 = s0 ∧ (True) := h9
      have q13 := h9.1.symm
      subst q13
      exact ⟨rfl, ⟨v5, v8, (Int64.ofNat 0), (Int32.ofInt 0), rfl, (by omega), (by omega), rfl⟩, trivial⟩
    ·
      intro L s20 hL
      obtain ⟨w14, w15, w16, w17, rfl, b18, b19, q23⟩ := hL
      have q23 := q23.symm
      subst q23
      intro v24 e25
      have b26 := vg_add e25 (by omega) (by omega)
      intro v27 e28
      have g29 : s0.1 43 2 = v27 := by rw [e28]
      have b30 : (0 : Int) ≤ v27.toInt ∧ v27.toInt ≤ 48 := by rw [e28]; exact Iv_43_2 i0
      refine And.intro (fun c31 => ?_) (fun c31 => ?_)
      · have c31 : v27.toInt ≤ v24.toInt := c31
        show s0 = s0 ∧ (True)
        exact ⟨rfl, (trivial)⟩
      · have c31 : ¬ (v27.toInt ≤ v24.toInt) := c31
        refine And.intro (Nat.le_of_ble_eq_true rfl) (And.intro ⟨43, w17, rfl, by decide, i0⟩ ?_)
        intro v32 s34 h33
        have h33 : s34 = s0 ∧ (True) := h33
        have q37 := h33.1.symm
        subst q37
        intro v38 e39
        intro v40 e41
        intro v42 e43
        intro v44 e45
        have b46 := vg_add e45 (by omega) (by omega)
        refine And.intro (Nat.le_of_ble_eq_true rfl) (And.intro ⟨43, v44, rfl, by decide, i0⟩ ?_)
        intro v47 s49 h48
        have h48 : s49 = s0 ∧ (True) := h48
        have q52 := h48.1.symm
        subst q52
        intro v53 e54
        intro v55 e56
        intro v57 e58
        intro v59 e60
        intro v61 e62
        intro v63 e64
        have b65 := vg_add e64 (by omega) (by omega)
        exact ⟨rfl, ⟨w14, w15, v61, v63, rfl, (by omega), (by omega), rfl⟩, (by show (48 - v63.toInt).toNat < (48 - w17.toInt).toNat; omega)⟩
  ·
    have z0 : (Int32.ofInt 0).toInt = 0 := by decide
    have z1 : (Int32.ofInt 1).toInt = 1 := by decide
    refine ⟨Nat.le_of_ble_eq_true rfl, [(18, [true, true, true, false, true, false, true, false, true], (fun L t => ∃ (x2 : Int64) (x4 : Int64) (x6 : Int64) (x8 : Int32), L = [some (.ref 45), some (.int a1), some (.long x2), none, some (.long x4), none, some (.long x6), none, some (.int x8)] ∧ (0 : Int) ≤ x8.toInt ∧ x8.toInt ≤ (48 : Int) ∧ t = s0), (fun L _ => (48 - (vg_li L 8).toInt).toNat))], ?_, List.forall_mem_cons.mpr ⟨?_, fun _ h => absurd h List.not_mem_nil⟩⟩
    ·
      intro v1 e2
      have g3 : s0.1 45 2 = v1 := by rw [e2]
      have b4 : (0 : Int) ≤ v1.toInt ∧ v1.toInt ≤ 48 := by rw [e2]; exact Iv_45_2 i0
      intro v5 e6
      have b7 := vg_i2l e6
      refine And.intro (Nat.le_of_ble_eq_true rfl) (And.intro ⟨45, rfl, by decide, i0⟩ ?_)
      intro v8 s10 h9
      have h9 : s10 = s0 ∧ (True) := h9
      have q13 := h9.1.symm
      subst q13
      exact ⟨rfl, ⟨v5, v8, (Int64.ofNat 0), (Int32.ofInt 0), rfl, (by omega), (by omega), rfl⟩, trivial⟩
    ·
      intro L s20 hL
      obtain ⟨w14, w15, w16, w17, rfl, b18, b19, q23⟩ := hL
      have q23 := q23.symm
      subst q23
      intro v24 e25
      have b26 := vg_add e25 (by omega) (by omega)
      intro v27 e28
      have g29 : s0.1 45 2 = v27 := by rw [e28]
      have b30 : (0 : Int) ≤ v27.toInt ∧ v27.toInt ≤ 48 := by rw [e28]; exact Iv_45_2 i0
      refine And.intro (fun c31 => ?_) (fun c31 => ?_)
      · have c31 : v27.toInt ≤ v24.toInt := c31
        show s0 = s0 ∧ (True)
        exact ⟨rfl, (trivial)⟩
      · have c31 : ¬ (v27.toInt ≤ v24.toInt) := c31
        refine And.intro (Nat.le_of_ble_eq_true rfl) (And.intro ⟨45, w17, rfl, by decide, i0⟩ ?_)
        intro v32 s34 h33
        have h33 : s34 = s0 ∧ (True) := h33
        have q37 := h33.1.symm
        subst q37
        intro v38 e39
        intro v40 e41
        intro v42 e43
        intro v44 e45
        have b46 := vg_add e45 (by omega) (by omega)
        refine And.intro (Nat.le_of_ble_eq_true rfl) (And.intro ⟨45, v44, rfl, by decide, i0⟩ ?_)
        intro v47 s49 h48
        have h48 : s49 = s0 ∧ (True) := h48
        have q52 := h48.1.symm
        subst q52
        intro v53 e54
        intro v55 e56
        intro v57 e58
        intro v59 e60
        intro v61 e62
        intro v63 e64
        have b65 := vg_add e64 (by omega) (by omega)
        exact ⟨rfl, ⟨w14, w15, v61, v63, rfl, (by omega), (by omega), rfl⟩, (by show (48 - v63.toInt).toNat < (48 - w17.toInt).toNat; omega)⟩
  ·
    have z0 : (Int32.ofInt 0).toInt = 0 := by decide
    have z1 : (Int32.ofInt 1).toInt = 1 := by decide
    refine ⟨Nat.le_of_ble_eq_true rfl, [(18, [true, true, true, false, true, false, true, false, true], (fun L t => ∃ (x2 : Int64) (x4 : Int64) (x6 : Int64) (x8 : Int32), L = [some (.ref 47), some (.int a1), some (.long x2), none, some (.long x4), none, some (.long x6), none, some (.int x8)] ∧ (0 : Int) ≤ x8.toInt ∧ x8.toInt ≤ (48 : Int) ∧ t = s0), (fun L _ => (48 - (vg_li L 8).toInt).toNat))], ?_, List.forall_mem_cons.mpr ⟨?_, fun _ h => absurd h List.not_mem_nil⟩⟩
    ·
      intro v1 e2
      have g3 : s0.1 47 2 = v1 := by rw [e2]
      have b4 : (0 : Int) ≤ v1.toInt ∧ v1.toInt ≤ 48 := by rw [e2]; exact Iv_47_2 i0
      intro v5 e6
      have b7 := vg_i2l e6
      refine And.intro (Nat.le_of_ble_eq_true rfl) (And.intro ⟨47, rfl, by decide, i0⟩ ?_)
      intro v8 s10 h9
      have h9 : s10 = s0 ∧ (True) := h9
      have q13 := h9.1.symm
      subst q13
      exact ⟨rfl, ⟨v5, v8, (Int64.ofNat 0), (Int32.ofInt 0), rfl, (by omega), (by omega), rfl⟩, trivial⟩
    ·
      intro L s20 hL
      obtain ⟨w14, w15, w16, w17, rfl, b18, b19, q23⟩ := hL
      have q23 := q23.symm
      subst q23
      intro v24 e25
      have b26 := vg_add e25 (by omega) (by omega)
      intro v27 e28
      have g29 : s0.1 47 2 = v27 := by rw [e28]
      have b30 : (0 : Int) ≤ v27.toInt ∧ v27.toInt ≤ 48 := by rw [e28]; exact Iv_47_2 i0
      refine And.intro (fun c31 => ?_) (fun c31 => ?_)
      · have c31 : v27.toInt ≤ v24.toInt := c31
        show s0 = s0 ∧ (True)
        exact ⟨rfl, (trivial)⟩
      · have c31 : ¬ (v27.toInt ≤ v24.toInt) := c31
        refine And.intro (Nat.le_of_ble_eq_true rfl) (And.intro ⟨47, w17, rfl, by decide, i0⟩ ?_)
        intro v32 s34 h33
        have h33 : s34 = s0 ∧ (True) := h33
        have q37 := h33.1.symm
        subst q37
        intro v38 e39
        intro v40 e41
        intro v42 e43
        intro v44 e45
        have b46 := vg_add e45 (by omega) (by omega)
        refine And.intro (Nat.le_of_ble_eq_true rfl) (And.intro ⟨47, v44, rfl, by decide, i0⟩ ?_)
        intro v47 s49 h48
        have h48 : s49 = s0 ∧ (True) := h48
        have q52 := h48.1.symm
        subst q52
        intro v53 e54
        intro v55 e56
        intro v57 e58
        intro v59 e60
        intro v61 e62
        intro v63 e64
        have b65 := vg_add e64 (by omega) (by omega)
        exact ⟨rfl, ⟨w14, w15, v61, v63, rfl, (by omega), (by omega), rfl⟩, (by show (48 - v63.toInt).toNat < (48 - w17.toInt).toNat; omega)⟩
  ·
    have z0 : (Int32.ofInt 0).toInt = 0 := by decide
    have z1 : (Int32.ofInt 1).toInt = 1 := by decide
    refine ⟨Nat.le_of_ble_eq_true rfl, [(18, [true, true, true, false, true, false, true, false, true], (fun L t => ∃ (x2 : Int64) (x4 : Int64) (x6 : Int64) (x8 : Int32), L = [some (.ref 49), some (.int a1), some (.long x2), none, some (.long x4), none, some (.long x6), none, some (.int x8)] ∧ (0 : Int) ≤ x8.toInt ∧ x8.toInt ≤ (48 : Int) ∧ t = s0), (fun L _ => (48 - (vg_li L 8).toInt).toNat))], ?_, List.forall_mem_cons.mpr ⟨?_, fun _ h => absurd h List.not_mem_nil⟩⟩
    ·
      intro v1 e2
      have g3 : s0.1 49 2 = v1 := by rw [e2]
      have b4 : (0 : Int) ≤ v1.toInt ∧ v1.toInt ≤ 48 := by rw [e2]; exact Iv_49_2 i0
      intro v5 e6
      have b7 := vg_i2l e6
      refine And.intro (Nat.le_of_ble_eq_true rfl) (And.intro ⟨49, rfl, by decide, i0⟩ ?_)
      intro v8 s10 h9
      have h9 : s10 = s0 ∧ (True) := h9
      have q13 := h9.1.symm
      subst q13
      exact ⟨rfl, ⟨v5, v8, (Int64.ofNat 0), (Int32.ofInt 0), rfl, (by omega), (by omega), rfl⟩, trivial⟩
    ·
      intro L s20 hL
      obtain ⟨w14, w15, w16, w17, rfl, b18, b19, q23⟩ := hL
      have q23 := q23.symm
      subst q23
      intro v24 e25
      have b26 := vg_add e25 (by omega) (by omega)
      intro v27 e28
      have g29 : s0.1 49 2 = v27 := by rw [e28]
      have b30 : (0 : Int) ≤ v27.toInt ∧ v27.toInt ≤ 48 := by rw [e28]; exact Iv_49_2 i0
      refine And.intro (fun c31 => ?_) (fun c31 => ?_)
      · have c31 : v27.toInt ≤ v24.toInt := c31
        show s0 = s0 ∧ (True)
        exact ⟨rfl, (trivial)⟩
      · have c31 : ¬ (v27.toInt ≤ v24.toInt) := c31
        refine And.intro (Nat.le_of_ble_eq_true rfl) (And.intro ⟨49, w17, rfl, by decide, i0⟩ ?_)
        intro v32 s34 h33
        have h33 : s34 = s0 ∧ (True) := h33
        have q37 := h33.1.symm
        subst q37
        intro v38 e39
        intro v40 e41
        intro v42 e43
        intro v44 e45
        have b46 := vg_add e45 (by omega) (by omega)
        refine And.intro (Nat.le_of_ble_eq_true rfl) (And.intro ⟨49, v44, rfl, by decide, i0⟩ ?_)
        intro v47 s49 h48
        have h48 : s49 = s0 ∧ (True) := h48
        have q52 := h48.1.symm
        subst q52
        intro v53 e54
        intro v55 e56
        intro v57 e58
        intro v59 e60
        intro v61 e62
        intro v63 e64
        have b65 := vg_add e64 (by omega) (by omega)
        exact ⟨rfl, ⟨w14, w15, v61, v63, rfl, (by omega), (by omega), rfl⟩, (by show (48 - v63.toInt).toNat < (48 - w17.toInt).toNat; omega)⟩
  ·
    have z0 : (Int32.ofInt 0).toInt = 0 := by decide
    have z1 : (Int32.ofInt 1).toInt = 1 := by decide
    refine ⟨Nat.le_of_ble_eq_true rfl, [(18, [true, true, true, false, true, false, true, false, true], (fun L t => ∃ (x2 : Int64) (x4 : Int64) (x6 : Int64) (x8 : Int32), L = [some (.ref 51), some (.int a1), some (.long x2), none, some (.long x4), none, some (.long x6), none, some (.int x8)] ∧ (0 : Int) ≤ x8.toInt ∧ x8.toInt ≤ (48 : Int) ∧ t = s0), (fun L _ => (48 - (vg_li L 8).toInt).toNat))], ?_, List.forall_mem_cons.mpr ⟨?_, fun _ h => absurd h List.not_mem_nil⟩⟩
    ·
      intro v1 e2
      have g3 : s0.1 51 2 = v1 := by rw [e2]
      have b4 : (0 : Int) ≤ v1.toInt ∧ v1.toInt ≤ 48 := by rw [e2]; exact Iv_51_2 i0
      intro v5 e6
      have b7 := vg_i2l e6
      refine And.intro (Nat.le_of_ble_eq_true rfl) (And.intro ⟨51, rfl, by decide, i0⟩ ?_)
      intro v8 s10 h9
      have h9 : s10 = s0 ∧ (True) := h9
      have q13 := h9.1.symm
      subst q13
      exact ⟨rfl, ⟨v5, v8, (Int64.ofNat 0), (Int32.ofInt 0), rfl, (by omega), (by omega), rfl⟩, trivial⟩
    ·
      intro L s20 hL
      obtain ⟨w14, w15, w16, w17, rfl, b18, b19, q23⟩ := hL
      have q23 := q23.symm
      subst q23
      intro v24 e25
      have b26 := vg_add e25 (by omega) (by omega)
      intro v27 e28
      have g29 : s0.1 51 2 = v27 := by rw [e28]
      have b30 : (0 : Int) ≤ v27.toInt ∧ v27.toInt ≤ 48 := by rw [e28]; exact Iv_51_2 i0
      refine And.intro (fun c31 => ?_) (fun c31 => ?_)
      · have c31 : v27.toInt ≤ v24.toInt := c31
        show s0 = s0 ∧ (True)
        exact ⟨rfl, (trivial)⟩
      · have c31 : ¬ (v27.toInt ≤ v24.toInt) := c31
        refine And.intro (Nat.le_of_ble_eq_true rfl) (And.intro ⟨51, w17, rfl, by decide, i0⟩ ?_)
        intro v32 s34 h33
        have h33 : s34 = s0 ∧ (True) := h33
        have q37 := h33.1.symm
        subst q37
        intro v38 e39
        intro v40 e41
        intro v42 e43
        intro v44 e45
        have b46 := vg_add e45 (by omega) (by omega)
        refine And.intro (Nat.le_of_ble_eq_true rfl) (And.intro ⟨51, v44, rfl, by decide, i0⟩ ?_)
        intro v47 s49 h48
        have h48 : s49 = s0 ∧ (True) := h48
        have q52 := h48.1.symm
        subst q52
        intro v53 e54
        intro v55 e56
        intro v57 e58
        intro v59 e60
        intro v61 e62
        intro v63 e64
        have b65 := vg_add e64 (by omega) (by omega)
        exact ⟨rfl, ⟨w14, w15, v61, v63, rfl, (by omega), (by omega), rfl⟩, (by show (48 - v63.toInt).toNat < (48 - w17.toInt).toNat; omega)⟩
  ·
    have z0 : (Int32.ofInt 0).toInt = 0 := by decide
    have z1 : (Int32.ofInt 1).toInt = 1 := by decide
    refine ⟨Nat.le_of_ble_eq_true rfl, [(18, [true, true, true, false, true, false, true, false, true], (fun L t => ∃ (x2 : Int64) (x4 : Int64) (x6 : Int64) (x8 : Int32), L = [some (.ref 53), some (.int a1), some (.long x2), none, some (.long x4), none, some (.long x6), none, some (.int x8)] ∧ (0 : Int) ≤ x8.toInt ∧ x8.toInt ≤ (48 : Int) ∧ t = s0), (fun L _ => (48 - (vg_li L 8).toInt).toNat))], ?_, List.forall_mem_cons.mpr ⟨?_, fun _ h => absurd h List.not_mem_nil⟩⟩
    ·
      intro v1 e2
      have g3 : s0.1 53 2 = v1 := by rw [e2]
      have b4 : (0 : Int) ≤ v1.toInt ∧ v1.toInt ≤ 48 := by rw [e2]; exact Iv_53_2 i0
      intro v5 e6
      have b7 := vg_i2l e6
      refine And.intro (Nat.le_of_ble_eq_true rfl) (And.intro ⟨53, rfl, by decide, i0⟩ ?_)
      intro v8 s10 h9
      have h9 : s10 = s0 ∧ (True) := h9
      have q13 := h9.1.symm
      subst q13
      exact ⟨rfl, ⟨v5, v8, (Int64.ofNat 0), (Int32.ofInt 0), rfl, (by omega), (by omega), rfl⟩, trivial⟩
    ·
      intro L s20 hL
      obtain ⟨w14, w15, w16, w17, rfl, b18, b19, q23⟩ := hL
      have q23 := q23.symm
      subst q23
      intro v24 e25
      have b26 := vg_add e25 (by omega) (by omega)
      intro v27 e28
      have g29 : s0.1 53 2 = v27 := by rw [e28]
      have b30 : (0 : Int) ≤ v27.toInt ∧ v27.toInt ≤ 48 := by rw [e28]; exact Iv_53_2 i0
      refine And.intro (fun c31 => ?_) (fun c31 => ?_)
      · have c31 : v27.toInt ≤ v24.toInt := c31
        show s0 = s0 ∧ (True)
        exact ⟨rfl, (trivial)⟩
      · have c31 : ¬ (v27.toInt ≤ v24.toInt) := c31
        refine And.intro (Nat.le_of_ble_eq_true rfl) (And.intro ⟨53, w17, rfl, by decide, i0⟩ ?_)
        intro v32 s34 h33
        have h33 : s34 = s0 ∧ (True) := h33
        have q37 := h33.1.symm
        subst q37
        intro v38 e39
        intro v40 e41
        intro v42 e43
        intro v44 e45
        have b46 := vg_add e45 (by omega) (by omega)
        refine And.intro (Nat.le_of_ble_eq_true rfl) (And.intro ⟨53, v44, rfl, by decide, i0⟩ ?_)
        intro v47 s49 h48
        have h48 : s49 = s0 ∧ (True) := h48
        have q52 := h48.1.symm
        subst q52
        intro v53 e54
        intro v55 e56
        intro v57 e58
        intro v59 e60
        intro v61 e62
        intro v63 e64
        have b65 := vg_add e64 (by omega) (by omega)
        exact ⟨rfl, ⟨w14, w15, v61, v63, rfl, (by omega), (by omega), rfl⟩, (by show (48 - v63.toInt).toNat < (48 - w17.toInt).toNat; omega)⟩
def o_X4_greatestBeat : List vg_I := [(0, .iload_n 1, 1, 0, 0, 0, 0), (1, .istore_n 3, 1, 0, 0, 0, 0), (2, .aload_n 0, 1, 0, 0, 0, 0), (3, .iload_n 1, 1, 0, 0, 0, 0), (4, .invokevirtual 44, 3, 0, 4, 1, 936), (7, .lstore 4, 2, 0, 0, 0, 0), (9, .iload_n 1, 1, 0, 0, 0, 0), (10, .iconst 1, 1, 0, 0, 0, 0), (11, .iadd, 1, 0, 0, 0, 0), (12, .istore 6, 2, 0, 0, 0, 0), (14, .iload 6, 2, 0, 0, 0, 0), (16, .iload_n 2, 1, 0, 0, 0, 0), (17, .if_icmp .gt 32, 3, 0, 0, 0, 0), (20, .aload_n 0, 1, 0, 0, 0, 0), (21, .iload 6, 2, 0, 0, 0, 0), (23, .invokevirtual 44, 3, 0, 4, 1, 936), (26, .lstore 7, 2, 0, 0, 0, 0), (28, .lload 7, 2, 0, 0, 0, 0), (30, .lload 4, 2, 0, 0, 0, 0), (32, .lcmp, 1, 0, 0, 0, 0), (33, .ifCond .le 10, 3, 0, 0, 0, 0), (36, .lload 7, 2, 0, 0, 0, 0), (38, .lstore 4, 2, 0, 0, 0, 0), (40, .iload 6, 2, 0, 0, 0, 0), (42, .istore_n 3, 1, 0, 0, 0, 0), (43, .iinc 6 1, 3, 0, 0, 0, 0), (46, .goto (-32), 3, 0, 0, 0, 0), (49, .iload_n 3, 1, 0, 0, 0, 0), (50, .ireturn, 1, 0, 0, 0, 0)]
set_option maxRecDepth 100000 in
set_option maxHeartbeats 4000000 in
theorem c_X4_greatestBeat (l : Launch) (G : vg_G) (hp : vg_Hp G) : vg_Ct l G vg_sh r_X4_greatestBeat := by
  refine vg_meth hp vg_sh_ok r_X4_greatestBeat k_X4_greatestBeat rfl (fun h => by cases h) o_X4_greatestBeat [r_X4_beatOf] false (by decide +kernel) (by decide +kernel) ⟨_, _, rfl, rfl⟩ (List.forall_mem_cons.mpr ⟨⟨c_X4_beatOf l G hp, Nat.le_of_ble_eq_true rfl, Nat.le_of_ble_eq_true rfl⟩, fun _ h => absurd h List.not_mem_nil⟩) (fun h => by cases h) 600 ?_
  intro as s0 hpre
  obtain ⟨r, a1, a2, rfl, hr, i0, p0⟩ := hpre
  simp only [List.mem_cons, List.not_mem_nil, or_false] at hr
  rcases hr with rfl | rfl | rfl | rfl | rfl | rfl | rfl
  ·
    have z1 : (Int32.ofInt 1).toInt = 1 := by decide
    refine ⟨Nat.le_of_ble_eq_true rfl, [(14, [true, false, true, true, true, false, true, false, false], (fun L t => ∃ (x3 : Int32) (x4 : Int64) (x6 : Int32), L = [some (.ref 41), none, some (.int a2), some (.int x3), some (.long x4), none, some (.int x6), none, none] ∧ (1 : Int) ≤ x6.toInt ∧ x6.toInt ≤ (25 : Int) ∧ t = s0), (fun L _ => (0 + (25 - (vg_li L 6).toInt) * 1000000000000).toNat))], ?_, List.forall_mem_cons.mpr ⟨?_, fun _ h => absurd h List.not_mem_nil⟩⟩
    ·
      refine And.intro (Nat.le_of_ble_eq_true rfl) (And.intro ⟨41, a1, rfl, by decide, i0, by omega⟩ ?_)
      intro v1 s3 h2
      have h2 : s3 = s0 ∧ (True) := h2
      have q6 := h2.1.symm
      subst q6
      intro v7 e8
      have b9 := vg_add e8 (by omega) (by omega)
      exact ⟨rfl, ⟨a1, v1, v7, rfl, (by omega), (by omega), rfl⟩, trivial⟩
    ·
      intro L s15 hL
      obtain ⟨w10, w11, w12, rfl, b13, b14, q18⟩ := hL
      have q18 := q18.symm
      subst q18
      refine And.intro (fun c19 => ?_) (fun c19 => ?_)
      · have c19 : a2.toInt < w12.toInt := c19
        show s0 = s0 ∧ (True)
        exact ⟨rfl, (trivial)⟩
      · have c19 : ¬ (a2.toInt < w12.toInt) := c19
        refine And.intro (Nat.le_of_ble_eq_true rfl) (And.intro ⟨41, w12, rfl, by decide, i0, by omega⟩ ?_)
        intro v20 s22 h21
        have h21 : s22 = s0 ∧ (True) := h21
        have q25 := h21.1.symm
        subst q25
        intro v26 e27
        refine And.intro (fun c28 => ?_) (fun c28 => ?_)
        · have c28 : v26.toInt ≤ 0 := c28
          intro v29 e30
          have b31 := vg_add e30 (by omega) (by omega)
          exact ⟨rfl, ⟨w10, w11, v29, rfl, (by omega), (by omega), rfl⟩, (by show (0 + (25 - v29.toInt) * 1000000000000).toNat < (0 + (25 - w12.toInt) * 1000000000000).toNat; omega)⟩
        · have c28 : ¬ (v26.toInt ≤ 0) := c28
          intro v32 e33
          have b34 := vg_add e33 (by omega) (by omega)
          exact ⟨rfl, ⟨w12, v20, v32, rfl, (by omega), (by omega), rfl⟩, (by show (0 + (25 - v32.toInt) * 1000000000000).toNat < (0 + (25 - w12.toInt) * 1000000000000).toNat; omega)⟩
  ·
    have z1 : (Int32.ofInt 1).toInt = 1 := by decide
    refine ⟨Nat.le_of_ble_eq_true rfl, [(14, [true, false, true, true, true, false, true, false, false], (fun L t => ∃ (x3 : Int32) (x4 : Int64) (x6 : Int32), L = [some (.ref 43), none, some (.int a2), some (.int x3), some (.long x4), none, some (.int x6), none, none] ∧ (1 : Int) ≤ x6.toInt ∧ x6.toInt ≤ (25 : Int) ∧ t = s0), (fun L _ => (0 + (25 - (vg_li L 6).toInt) * 1000000000000).toNat))], ?_, List.forall_mem_cons.mpr ⟨?_, fun _ h => absurd h List.not_mem_nil⟩⟩
    ·
      refine And.intro (Nat.le_of_ble_eq_true rfl) (And.intro ⟨43, a1, rfl, by decide, i0, by omega⟩ ?_)
      intro v1 s3 h2
      have h2 : s3 = s0 ∧ (True) := h2
      have q6 := h2.1.symm
      subst q6
      intro v7 e8
      have b9 := vg_add e8 (by omega) (by omega)
      exact ⟨rfl, ⟨a1, v1, v7, rfl, (by omega), (by omega), rfl⟩, trivial⟩
    ·
      intro L s15 hL
      obtain ⟨w10, w11, w12, rfl, b13, b14, q18⟩ := hL
      have q18 := q18.symm
      subst q18
      refine And.intro (fun c19 => ?_) (fun c19 => ?_)
      · have c19 : a2.toInt < w12.toInt := c19
        show s0 = s0 ∧ (True)
        exact ⟨rfl, (trivial)⟩
      · have c19 : ¬ (a2.toInt < w12.toInt) := c19
        refine And.intro (Nat.le_of_ble_eq_true rfl) (And.intro ⟨43, w12, rfl, by decide, i0, by omega⟩ ?_)
        intro v20 s22 h21
        have h21 : s22 = s0 ∧ (True) := h21
        have q25 := h21.1.symm
        subst q25
        intro v26 e27
        refine And.intro (fun c28 => ?_) (fun c28 => ?_)
        · have c28 : v26.toInt ≤ 0 := c28
          intro v29 e30
          have b31 := vg_add e30 (by omega) (by omega)
          exact ⟨rfl, ⟨w10, w11, v29, rfl, (by omega), (by omega), rfl⟩, (by show (0 + (25 - v29.toInt) * 1000000000000).toNat < (0 + (25 - w12.toInt) * 1000000000000).toNat; omega)⟩
        · have c28 : ¬ (v26.toInt ≤ 0) := c28
          intro v32 e33
          have b34 := vg_add e33 (by omega) (by omega)
          exact ⟨rfl, ⟨w12, v20, v32, rfl, (by omega), (by omega), rfl⟩, (by show (0 + (25 - v32.toInt) * 1000000000000).toNat < (0 + (25 - w12.toInt) * 1000000000000).toNat; omega)⟩
  ·
    have z1 : (Int32.ofInt 1).toInt = 1 := by decide
    refine ⟨Nat.le_of_ble_eq_true rfl, [(14, [true, false, true, true, true, false, true, false, false], (fun L t => ∃ (x3 : Int32) (x4 : Int64) (x6 : Int32), L = [some (.ref 45), none, some (.int a2), some (.int x3), some (.long x4), none, some (.int x6), none, none] ∧ (1 : Int) ≤ x6.toInt ∧ x6.toInt ≤ (25 : Int) ∧ t = s0), (fun L _ => (0 + (25 - (vg_li L 6).toInt) * 1000000000000).toNat))], ?_, List.forall_mem_cons.mpr ⟨?_, fun _ h => absurd h List.not_mem_nil⟩⟩
    ·
      refine And.intro (Nat.le_of_ble_eq_true rfl) (And.intro ⟨45, a1, rfl, by decide, i0, by omega⟩ ?_)
      intro v1 s3 h2
      have h2 : s3 = s0 ∧ (True) := h2
      have q6 := h2.1.symm
      subst q6
      intro v7 e8
      have b9 := vg_add e8 (by omega) (by omega)
      exact ⟨rfl, ⟨a1, v1, v7, rfl, (by omega), (by omega), rfl⟩, trivial⟩
    ·
      intro L s15 hL
      obtain ⟨w10, w11, w12, rfl, b13, b14, q18⟩ := hL
      have q18 := q18.symm
      subst q18
      refine And.intro (fun c19 => ?_) (fun c19 => ?_)
      · have c19 : a2.toInt < w12.toInt := c19
        show s0 = s0 ∧ (True)
        exact ⟨rfl, (trivial)⟩
      · have c19 : ¬ (a2.toInt < w12.toInt) := c19
        refine And.intro (Nat.le_of_ble_eq_true rfl) (And.intro ⟨45, w12, rfl, by decide, i0, by omega⟩ ?_)
        intro v20 s22 h21
        have h21 : s22 = s0 ∧ (True) := h21
        have q25 := h21.1.symm
        subst q25
        intro v26 e27
        refine And.intro (fun c28 => ?_) (fun c28 => ?_)
        · have c28 : v26.toInt ≤ 0 := c28
          intro v29 e30
          have b31 := vg_add e30 (by omega) (by omega)
          exact ⟨rfl, ⟨w10, w11, v29, rfl, (by omega), (by omega), rfl⟩, (by show (0 + (25 - v29.toInt) * 1000000000000).toNat < (0 + (25 - w12.toInt) * 1000000000000).toNat; omega)⟩
        · have c28 : ¬ (v26.toInt ≤ 0) := c28
          intro v32 e33
          have b34 := vg_add e33 (by omega) (by omega)
          exact ⟨rfl, ⟨w12, v20, v32, rfl, (by omega), (by omega), rfl⟩, (by show (0 + (25 - v32.toInt) * 1000000000000).toNat < (0 + (25 - w12.toInt) * 1000000000000).toNat; omega)⟩
  ·
    have z1 : (Int32.ofInt 1).toInt = 1 := by decide
    refine ⟨Nat.le_of_ble_eq_true rfl, [(14, [true, false, true, true, true, false, true, false, false], (fun L t => ∃ (x3 : Int32) (x4 : Int64) (x6 : Int32), L = [some (.ref 47), none, some (.int a2), some (.int x3), some (.long x4), none, some (.int x6), none, none] ∧ (1 : Int) ≤ x6.toInt ∧ x6.toInt ≤ (25 : Int) ∧ t = s0), (fun L _ => (0 + (25 - (vg_li L 6).toInt) * 1000000000000).toNat))], ?_, List.forall_mem_cons.mpr ⟨?_, fun _ h => absurd h List.not_mem_nil⟩⟩
    ·
      refine And.intro (Nat.le_of_ble_eq_true rfl) (And.intro ⟨47, a1, rfl, by decide, i0, by omega⟩ ?_)
      intro v1 s3 h2
      have h2 : s3 = s0 ∧ (True) := h2
      have q6 := h2.1.symm
      subst q6
      intro v7 e8
      have b9 := vg_add e8 (by omega) (by omega)
      exact ⟨rfl, ⟨a1, v1, v7, rfl, (by omega), (by omega), rfl⟩, trivial⟩
    ·
      intro L s15 hL
      obtain ⟨w10, w11, w12, rfl, b13, b14, q18⟩ := hL
      have q18 := q18.symm
      subst q18
      refine And.intro (fun c19 => ?_) (fun c19 => ?_)
      · have c19 : a2.toInt < w12.toInt := c19
        show s0 = s0 ∧ (True)
        exact ⟨rfl, (trivial)⟩
      · have c19 : ¬ (a2.toInt < w12.toInt) := c19
        refine And.intro (Nat.le_of_ble_eq_true rfl) (And.intro ⟨47, w12, rfl, by decide, i0, by omega⟩ ?_)
        intro v20 s22 h21
        have h21 : s22 = s0 ∧ (True) := h21
        have q25 := h21.1.symm
        subst q25
        intro v26 e27
        refine And.intro (fun c28 => ?_) (fun c28 => ?_)
        · have c28 : v26.toInt ≤ 0 := c28
          intro v29 e30
          have b31 := vg_add e30 (by omega) (by omega)
          exact ⟨rfl, ⟨w10, w11, v29, rfl, (by omega), (by omega), rfl⟩, (by show (0 + (25 - v29.toInt) * 1000000000000).toNat < (0 + (25 - w12.toInt) * 1000000000000).toNat; omega)⟩
        · have c28 : ¬ (v26.toInt ≤ 0) := c28
          intro v32 e33
          have b34 := vg_add e33 (by omega) (by omega)
          exact ⟨rfl, ⟨w12, v20, v32, rfl, (by omega), (by omega), rfl⟩, (by show (0 + (25 - v32.toInt) * 1000000000000).toNat < (0 + (25 - w12.toInt) * 1000000000000).toNat; omega)⟩
  ·
    have z1 : (Int32.ofInt 1).toInt = 1 := by decide
    refine ⟨Nat.le_of_ble_eq_true rfl, [(14, [true, false, true, true, true, false, true, false, false], (fun L t => ∃ (x3 : Int32) (x4 : Int64) (x6 : Int32), L = [some (.ref 49), none, some (.int a2), some (.int x3), some (.long x4), none, some (.int x6), none, none] ∧ (1 : Int) ≤ x6.toInt ∧ x6.toInt ≤ (25 : Int) ∧ t = s0), (fun L _ => (0 + (25 - (vg_li L 6).toInt) * 1000000000000).toNat))], ?_, List.forall_mem_cons.mpr ⟨?_, fun _ h => absurd h List.not_mem_nil⟩⟩
    ·
      refine And.intro (Nat.le_of_ble_eq_true rfl) (And.intro ⟨49, a1, rfl, by decide, i0, by omega⟩ ?_)
      intro v1 s3 h2
      have h2 : s3 = s0 ∧ (True) := h2
      have q6 := h2.1.symm
      subst q6
      intro v7 e8
      have b9 := vg_add e8 (by omega) (by omega)
      exact ⟨rfl, ⟨a1, v1, v7, rfl, (by omega), (by omega), rfl⟩, trivial⟩
    ·
      intro L s15 hL
      obtain ⟨w10, w11, w12, rfl, b13, b14, q18⟩ := hL
      have q18 := q18.symm
      subst q18
      refine And.intro (fun c19 => ?_) (fun c19 => ?_)
      · have c19 : a2.toInt < w12.toInt := c19
        show s0 = s0 ∧ (True)
        exact ⟨rfl, (trivial)⟩
      · have c19 : ¬ (a2.toInt < w12.toInt) := c19
        refine And.intro (Nat.le_of_ble_eq_true rfl) (And.intro ⟨49, w12, rfl, by decide, i0, by omega⟩ ?_)
        intro v20 s22 h21
        have h21 : s22 = s0 ∧ (True) := h21
        have q25 := h21.1.symm
        subst q25
        intro v26 e27
        refine And.intro (fun c28 => ?_) (fun c28 => ?_)
        · have c28 : v26.toInt ≤ 0 := c28
          intro v29 e30
          have b31 := vg_add e30 (by omega) (by omega)
          exact ⟨rfl, ⟨w10, w11, v29, rfl, (by omega), (by omega), rfl⟩, (by show (0 + (25 - v29.toInt) * 1000000000000).toNat < (0 + (25 - w12.toInt) * 1000000000000).toNat; omega)⟩
        · have c28 : ¬ (v26.toInt ≤ 0) := c28
          intro v32 e33
          have b34 := vg_add e33 (by omega) (by omega)
          exact ⟨rfl, ⟨w12, v20, v32, rfl, (by omega), (by omega), rfl⟩, (by show (0 + (25 - v32.toInt) * 1000000000000).toNat < (0 + (25 - w12.toInt) * 1000000000000).toNat; omega)⟩
  ·
    have z1 : (Int32.ofInt 1).toInt = 1 := by decide
    refine ⟨Nat.le_of_ble_eq_true rfl, [(14, [true, false, true, true, true, false, true, false, false], (fun L t => ∃ (x3 : Int32) (x4 : Int64) (x6 : Int32), L = [some (.ref 51), none, some (.int a2), some (.int x3), some (.long x4), none, some (.int x6), none, none] ∧ (1 : Int) ≤ x6.toInt ∧ x6.toInt ≤ (25 : Int) ∧ t = s0), (fun L _ => (0 + (25 - (vg_li L 6).toInt) * 1000000000000).toNat))], ?_, List.forall_mem_cons.mpr ⟨?_, fun _ h => absurd h List.not_mem_nil⟩⟩
    ·
      refine And.intro (Nat.le_of_ble_eq_true rfl) (And.intro ⟨51, a1, rfl, by decide, i0, by omega⟩ ?_)
      intro v1 s3 h2
      have h2 : s3 = s0 ∧ (True) := h2
      have q6 := h2.1.symm
      subst q6
      intro v7 e8
      have b9 := vg_add e8 (by omega) (by omega)
      exact ⟨rfl, ⟨a1, v1, v7, rfl, (by omega), (by omega), rfl⟩, trivial⟩
    ·
      intro L s15 hL
      obtain ⟨w10, w11, w12, rfl, b13, b14, q18⟩ := hL
      have q18 := q18.symm
      subst q18
      refine And.intro (fun c19 => ?_) (fun c19 => ?_)
      · have c19 : a2.toInt < w12.toInt := c19
        show s0 = s0 ∧ (True)
        exact ⟨rfl, (trivial)⟩
      · have c19 : ¬ (a2.toInt < w12.toInt) := c19
        refine And.intro (Nat.le_of_ble_eq_true rfl) (And.intro ⟨51, w12, rfl, by decide, i0, by omega⟩ ?_)
        intro v20 s22 h21
        have h21 : s22 = s0 ∧ (True) := h21
        have q25 := h21.1.symm
        subst q25
        intro v26 e27
        refine And.intro (fun c28 => ?_) (fun c28 => ?_)
        · have c28 : v26.toInt ≤ 0 := c28
          intro v29 e30
          have b31 := vg_add e30 (by omega) (by omega)
          exact ⟨rfl, ⟨w10, w11, v29, rfl, (by omega), (by omega), rfl⟩, (by show (0 + (25 - v29.toInt) * 1000000000000).toNat < (0 + (25 - w12.toInt) * 1000000000000).toNat; omega)⟩
        · have c28 : ¬ (v26.toInt ≤ 0) := c28
          intro v32 e33
          have b34 := vg_add e33 (by omega) (by omega)
          exact ⟨rfl, ⟨w12, v20, v32, rfl, (by omega), (by omega), rfl⟩, (by show (0 + (25 - v32.toInt) * 1000000000000).toNat < (0 + (25 - w12.toInt) * 1000000000000).toNat; omega)⟩
  ·
    have z1 : (Int32.ofInt 1).toInt = 1 := by decide
    refine ⟨Nat.le_of_ble_eq_true rfl, [(14, [true, false, true, true, true, false, true, false, false], (fun L t => ∃ (x3 : Int32) (x4 : Int64) (x6 : Int32), L = [some (.ref 53), none, some (.int a2), some (.int x3), some (.long x4), none, some (.int x6), none, none] ∧ (1 : Int) ≤ x6.toInt ∧ x6.toInt ≤ (25 : Int) ∧ t = s0), (fun L _ => (0 + (25 - (vg_li L 6).toInt) * 1000000000000).toNat))], ?_, List.forall_mem_cons.mpr ⟨?_, fun _ h => absurd h List.not_mem_nil⟩⟩
    ·
      refine And.intro (Nat.le_of_ble_eq_true rfl) (And.intro ⟨53, a1, rfl, by decide, i0, by omega⟩ ?_)
      intro v1 s3 h2
      have h2 : s3 = s0 ∧ (True) := h2
      have q6 := h2.1.symm
      subst q6
      intro v7 e8
      have b9 := vg_add e8 (by omega) (by omega)
      exact ⟨rfl, ⟨a1, v1, v7, rfl, (by omega), (by omega), rfl⟩, trivial⟩
    ·
      intro L s15 hL
      obtain ⟨w10, w11, w12, rfl, b13, b14, q18⟩ := hL
      have q18 := q18.symm
      subst q18
      refine And.intro (fun c19 => ?_) (fun c19 => ?_)
      · have c19 : a2.toInt < w12.toInt := c19
        show s0 = s0 ∧ (True)
        exact ⟨rfl, (trivial)⟩
      · have c19 : ¬ (a2.toInt < w12.toInt) := c19
        refine And.intro (Nat.le_of_ble_eq_true rfl) (And.intro ⟨53, w12, rfl, by decide, i0, by omega⟩ ?_)
        intro v20 s22 h21
        have h21 : s22 = s0 ∧ (True) := h21
        have q25 := h21.1.symm
        subst q25
        intro v26 e27
        refine And.intro (fun c28 => ?_) (fun c28 => ?_)
        · have c28 : v26.toInt ≤ 0 := c28
          intro v29 e30
          have b31 := vg_add e30 (by omega) (by omega)
          exact ⟨rfl, ⟨w10, w11, v29, rfl, (by omega), (by omega), rfl⟩, (by show (0 + (25 - v29.toInt) * 1000000000000).toNat < (0 + (25 - w12.toInt) * 1000000000000).toNat; omega)⟩
        · have c28 : ¬ (v26.toInt ≤ 0) := c28
          intro v32 e33
          have b34 := vg_add e33 (by omega) (by omega)
          exact ⟨rfl, ⟨w12, v20, v32, rfl, (by omega), (by omega), rfl⟩, (by show (0 + (25 - v32.toInt) * 1000000000000).toNat < (0 + (25 - w12.toInt) * 1000000000000).toNat; omega)⟩
end
section
def o_X6_copyFrom : List vg_I := [(0, .aload_n 0, 1, 0, 0, 0, 0), (1, .aload_n 1, 1, 0, 0, 0, 0), (2, .getfield 11, 3, 139, 6, 0, 0), (5, .putfield 11, 3, 139, 6, 0, 0), (8, .aload_n 0, 1, 0, 0, 0, 0), (9, .aload_n 1, 1, 0, 0, 0, 0), (10, .getfield 15, 3, 142, 6, 1, 0), (13, .putfield 15, 3, 142, 6, 1, 0), (16, .aload_n 0, 1, 0, 0, 0, 0), (17, .aload_n 1, 1, 0, 0, 0, 0), (18, .getfield 18, 3, 145, 6, 2, 0), (21, .putfield 18, 3, 145, 6, 2, 0), (24, .aload_n 0, 1, 0, 0, 0, 0), (25, .aload_n 1, 1, 0, 0, 0, 0), (26, .getfield 21, 3, 147, 6, 3, 0), (29, .putfield 21, 3, 147, 6, 3, 0), (32, .aload_n 0, 1, 0, 0, 0, 0), (33, .aload_n 1, 1, 0, 0, 0, 0), (34, .getfield 25, 3, 149, 6, 4, 0), (37, .putfield 25, 3, 149, 6, 4, 0), (40, .aload_n 0, 1, 0, 0, 0, 0), (41, .aload_n 1, 1, 0, 0, 0, 0), (42, .getfield 28, 3, 152, 6, 5, 0), (45, .putfield 28, 3, 152, 6, 5, 1), (48, .aload_n 0, 1, 0, 0, 0, 0), (49, .aload_n 1, 1, 0, 0, 0, 0), (50, .getfield 32, 3, 155, 6, 6, 0), (53, .putfield 32, 3, 155, 6, 6, 0), (56, .aload_n 0, 1, 0, 0, 0, 0), (57, .aload_n 1, 1, 0, 0, 0, 0), (58, .getfield 35, 3, 159, 6, 7, 0), (61, .putfield 35, 3, 159, 6, 7, 0), (64, .return_, 1, 0, 0, 0, 0)]
set_option maxRecDepth 100000 in
set_option maxHeartbeats 4000000 in
theorem c_X6_copyFrom (l : Launch) (G : vg_G) (hp : vg_Hp G) : vg_Ct l G vg_sh r_X6_copyFrom := by
  refine vg_meth hp vg_sh_ok r_X6_copyFrom k_X6_copyFrom rfl (fun h => by cases h) o_X6_copyFrom [] false (by decide +kernel) (by decide +kernel) ⟨_, _, rfl, rfl⟩ (fun _ h => absurd h List.not_mem_nil) (fun h => by cases h) 600 ?_
  intro as s0 hpre
  obtain ⟨r, a1, rfl, hr, ha1, i0⟩ := hpre
  simp only [List.mem_cons, List.not_mem_nil, or_false] at hr
  rcases hr with rfl
  ·
    simp only [List.mem_cons, List.not_mem_nil, or_false] at ha1
    rcases ha1 with rfl
    ·
      refine ⟨Nat.le_of_ble_eq_true rfl, [], ?_, fun _ h => absurd h List.not_mem_nil⟩
      ·
        intro v1 e2
        have g3 : s0.1 4 0 = v1 := by rw [e2]
        intro s4 e5
        have i6 : Iv s4 := Iv.u1 i0 e5 rfl
        have k7 : Kp s0 s4 := Kx.u1 Kx.rf e5 rfl
        intro v8 e9
        have g10 : s0.1 4 1 = v8 := by rw [e9, e5, vg_u1_ne (a := 4) (k := 23) (by decide)]
        have b11 : (1 : Int) ≤ v8.toInt ∧ v8.toInt ≤ 4 := by rw [e9]; exact Iv_4_1 i6
        intro s12 e13
        have i14 : Iv s12 := Iv.c1 (lo := 1) (hi := 4) i6 e13 rfl (by omega) (by omega)
        have k15 : Kp s0 s12 := Kx.u1 k7 e13 rfl
        intro v16 e17
        have g18 : s0.1 4 2 = v16 := by rw [e17, e13, vg_u1_ne (a := 4) (k := 23) (by decide), e5, vg_u1_ne (a := 4) (k := 23) (by decide)]
        have b19 : (1 : Int) ≤ v16.toInt ∧ v16.toInt ≤ 5000 := by rw [e17]; exact Iv_4_2 i14
        intro s20 e21
        have i22 : Iv s20 := Iv.c1 (lo := 1) (hi := 5000) i14 e21 rfl (by omega) (by omega)
        have k23 : Kp s0 s20 := Kx.u1 k15 e21 rfl
        intro v24 e25
        have g26 : s0.1 4 3 = v24 := by rw [e25, e21, vg_u1_ne (a := 4) (k := 23) (by decide), e13, vg_u1_ne (a := 4) (k := 23) (by decide), e5, vg_u1_ne (a := 4) (k := 23) (by decide)]
        have b27 : (2 : Int) ≤ v24.toInt ∧ v24.toInt ≤ 17 := by rw [e25]; exact Iv_4_3 i22
        intro s28 e29
        have i30 : Iv s28 := Iv.c1 (lo := 2) (hi := 17) i22 e29 rfl (by omega) (by omega)
        have k31 : Kp s0 s28 := Kx.u1 k23 e29 rfl
        intro v32 e33
        have g34 : s0.1 4 4 = v32 := by rw [e33, e29, vg_u1_ne (a := 4) (k := 23) (by decide), e21, vg_u1_ne (a := 4) (k := 23) (by decide), e13, vg_u1_ne (a := 4) (k := 23) (by decide), e5, vg_u1_ne (a := 4) (k := 23) (by decide)]
        have b35 : (1 : Int) ≤ v32.toInt ∧ v32.toInt ≤ 60000 := by rw [e33]; exact Iv_4_4 i30
        intro s36 e37
        have i38 : Iv s36 := Iv.c1 (lo := 1) (hi := 60000) i30 e37 rfl (by omega) (by omega)
        have k39 : Kp s0 s36 := Kx.u1 k31 e37 rfl
        intro v40 e41
        have g42 : s0.1 4 5 = v40 := by rw [e41, e37, vg_u1_ne (a := 4) (k := 23) (by decide), e29, vg_u1_ne (a := 4) (k := 23) (by decide), e21, vg_u1_ne (a := 4) (k := 23) (by decide), e13, vg_u1_ne (a := 4) (k := 23) (by decide), e5, vg_u1_ne (a := 4) (k := 23) (by decide)]
        have b43 : (0 : Int) ≤ v40.toInt ∧ v40.toInt ≤ 1 := by rw [e41]; exact Iv_4_5 i38
        refine And.intro (by first | exact Or.inl rfl | exact Or.inr rfl | exact vg_01 (by omega) (by omega)) ?_
        intro s44 e45
        have i46 : Iv s44 := Iv.c1 (lo := 0) (hi := 1) i38 e45 rfl (by omega) (by omega)
        have k47 : Kp s0 s44 := Kx.u1 k39 e45 rfl
        intro v48 e49
        have g50 : s0.1 4 6 = v48 := by rw [e49, e45, vg_u1_ne (a := 4) (k := 23) (by decide), e37, vg_u1_ne (a := 4) (k := 23) (by decide), e29, vg_u1_ne (a := 4) (k := 23) (by decide), e21, vg_u1_ne (a := 4) (k := 23) (by decide), e13, vg_u1_ne (a := 4) (k := 23) (by decide), e5, vg_u1_ne (a := 4) (k := 23) (by decide)]
        have b51 : (0 : Int) ≤ v48.toInt ∧ v48.toInt ≤ 5000 := by rw [e49]; exact Iv_4_6 i46
        intro s52 e53
        have i54 : Iv s52 := Iv.c1 (lo := 0) (hi := 5000) i46 e53 rfl (by omega) (by omega)
        have k55 : Kp s0 s52 := Kx.u1 k47 e53 rfl
        intro v56 e57
        have g58 : s0.1 4 7 = v56 := by rw [e57, e53, vg_u1_ne (a := 4) (k := 23) (by decide), e45, vg_u1_ne (a := 4) (k := 23) (by decide), e37, vg_u1_ne (a := 4) (k := 23) (by decide), e29, vg_u1_ne (a := 4) (k := 23) (by decide), e21, vg_u1_ne (a := 4) (k := 23) (by decide), e13, vg_u1_ne (a := 4) (k := 23) (by decide), e5, vg_u1_ne (a := 4) (k := 23) (by decide)]
        intro s59 e60
        have i61 : Iv s59 := Iv.u1 i54 e60 rfl
        have k62 : Kp s0 s59 := Kx.u1 k55 e60 rfl
        show Iv s59 ∧ Kp s0 s59 ∧ (True)
        exact ⟨i61, k62, (trivial)⟩
def o_X6_besides : List vg_I := [(0, .aload_n 0, 1, 0, 0, 0, 0), (1, .getfield 11, 3, 139, 6, 0, 0), (4, .iconst 2, 1, 0, 0, 0, 0), (5, .if_icmp .ne 23, 3, 0, 0, 0, 0), (8, .aload_n 0, 1, 0, 0, 0, 0), (9, .getfield 21, 3, 147, 6, 3, 0), (12, .iconst 1, 1, 0, 0, 0, 0), (13, .isub, 1, 0, 0, 0, 0), (14, .iconst 1, 1, 0, 0, 0, 0), (15, .aload_n 0, 1, 0, 0, 0, 0), (16, .getfield 15, 3, 142, 6, 1, 0), (19, .iconst 1, 1, 0, 0, 0, 0), (20, .isub, 1, 0, 0, 0, 0), (21, .ishl, 1, 0, 0, 0, 0), (22, .iconst 1, 1, 0, 0, 0, 0), (23, .isub, 1, 0, 0, 0, 0), (24, .imul, 1, 0, 0, 0, 0), (25, .goto 4, 3, 0, 0, 0, 0), (28, .iconst 0, 1, 0, 0, 0, 0), (29, .ireturn, 1, 0, 0, 0, 0)]
set_option maxRecDepth 100000 in
set_option maxHeartbeats 4000000 in
theorem c_X6_besides (l : Launch) (G : vg_G) (hp : vg_Hp G) : vg_Ct l G vg_sh r_X6_besides := by
  refine vg_meth hp vg_sh_ok r_X6_besides k_X6_besides rfl (fun h => by cases h) o_X6_besides [] false (by decide +kernel) (by decide +kernel) ⟨_, _, rfl, rfl⟩ (fun _ h => absurd h List.not_mem_nil) (fun h => by cases h) 600 ?_
  intro as s0 hpre
  obtain ⟨r, rfl, hr, i0⟩ := hpre
  simp only [List.mem_cons, List.not_mem_nil, or_false] at hr
  rcases hr with rfl | rfl
  ·
    have z0 : (Int32.ofInt 0).toInt = 0 := by decide
    have z1 : (Int32.ofInt 1).toInt = 1 := by decide
    have z2 : (Int32.ofInt 2).toInt = 2 := by decide
    refine ⟨Nat.le_of_ble_eq_true rfl, [], ?_, fun _ h => absurd h List.not_mem_nil⟩
    ·
      intro v1 e2
      have g3 : s0.1 4 0 = v1 := by rw [e2]
      refine And.intro (fun c4 => ?_) (fun c4 => ?_)
      · have c4 : ¬ v1.toInt = (Int32.ofInt 2).toInt := c4
        show s0 = s0 ∧ (True)
        exact ⟨rfl, (trivial)⟩
      · have c4 : ¬ (¬ v1.toInt = (Int32.ofInt 2).toInt) := c4
        intro v5 e6
        have g7 : s0.1 4 3 = v5 := by rw [e6]
        have b8 : (2 : Int) ≤ v5.toInt ∧ v5.toInt ≤ 17 := by rw [e6]; exact Iv_4_3 i0
        intro v9 e10
        have b11 := vg_sub e10 (by omega) (by omega)
        intro v12 e13
        have g14 : s0.1 4 1 = v12 := by rw [e13]
        have b15 : (1 : Int) ≤ v12.toInt ∧ v12.toInt ≤ 4 := by rw [e13]; exact Iv_4_1 i0
        intro v16 e17
        have b18 := vg_sub e17 (by omega) (by omega)
        intro v19 e20
        intro v21 e22
        intro v23 e24
        show s0 = s0 ∧ (True)
        exact ⟨rfl, (trivial)⟩
  ·
    have z0 : (Int32.ofInt 0).toInt = 0 := by decide
    have z1 : (Int32.ofInt 1).toInt = 1 := by decide
    have z2 : (Int32.ofInt 2).toInt = 2 := by decide
    refine ⟨Nat.le_of_ble_eq_true rfl, [], ?_, fun _ h => absurd h List.not_mem_nil⟩
    ·
      intro v1 e2
      have g3 : s0.1 23 0 = v1 := by rw [e2]
      refine And.intro (fun c4 => ?_) (fun c4 => ?_)
      · have c4 : ¬ v1.toInt = (Int32.ofInt 2).toInt := c4
        show s0 = s0 ∧ (True)
        exact ⟨rfl, (trivial)⟩
      · have c4 : ¬ (¬ v1.toInt = (Int32.ofInt 2).toInt) := c4
        intro v5 e6
        have g7 : s0.1 23 3 = v5 := by rw [e6]
        have b8 : (2 : Int) ≤ v5.toInt ∧ v5.toInt ≤ 17 := by rw [e6]; exact Iv_23_3 i0
        intro v9 e10
        have b11 := vg_sub e10 (by omega) (by omega)
        intro v12 e13
        have g14 : s0.1 23 1 = v12 := by rw [e13]
        have b15 : (1 : Int) ≤ v12.toInt ∧ v12.toInt ≤ 4 := by rw [e13]; exact Iv_23_1 i0
        intro v16 e17
        have b18 := vg_sub e17 (by omega) (by omega)
        intro v19 e20
        intro v21 e22
        intro v23 e24
        show s0 = s0 ∧ (True)
        exact ⟨rfl, (trivial)⟩
def o_X6_valueOfSmall : List vg_I := [(0, .aload_n 0, 1, 0, 0, 0, 0), (1, .getfield 18, 3, 145, 6, 2, 0), (4, .iconst 2, 1, 0, 0, 0, 0), (5, .iload_n 1, 1, 0, 0, 0, 0), (6, .imul, 1, 0, 0, 0, 0), (7, .iconst 1, 1, 0, 0, 0, 0), (8, .iadd, 1, 0, 0, 0, 0), (9, .aload_n 0, 1, 0, 0, 0, 0), (10, .getfield 21, 3, 147, 6, 3, 0), (13, .isub, 1, 0, 0, 0, 0), (14, .imul, 1, 0, 0, 0, 0), (15, .ireturn, 1, 0, 0, 0, 0)]
set_option maxRecDepth 100000 in
set_option maxHeartbeats 4000000 in
theorem c_X6_valueOfSmall (l : Launch) (G : vg_G) (hp : vg_Hp G) : vg_Ct l G vg_sh r_X6_valueOfSmall := by
  refine vg_meth hp vg_sh_ok r_X6_valueOfSmall k_X6_valueOfSmall rfl (fun h => by cases h) o_X6_valueOfSmall [] false (by decide +kernel) (by decide +kernel) ⟨_, _, rfl, rfl⟩ (fun _ h => absurd h List.not_mem_nil) (fun h => by cases h) 600 ?_
  intro as s0 hpre
  obtain ⟨r, a1, rfl, hr, i0⟩ := hpre
  simp only [List.mem_cons, List.not_mem_nil, or_false] at hr
  rcases hr with rfl | rfl
  ·
    have z1 : (Int32.ofInt 1).toInt = 1 := by decide
    have z2 : (Int32.ofInt 2).toInt = 2 := by decide
    refine ⟨Nat.le_of_ble_eq_true rfl, [], ?_, fun _ h => absurd h List.not_mem_nil⟩
    ·
      intro v1 e2
      have g3 : s0.1 4 2 = v1 := by rw [e2]
      have b4 : (1 : Int) ≤ v1.toInt ∧ v1.toInt ≤ 5000 := by rw [e2]; exact Iv_4_2 i0
      intro v5 e6
      intro v7 e8
      intro v9 e10
      have g11 : s0.1 4 3 = v9 := by rw [e10]
      have b12 : (2 : Int) ≤ v9.toInt ∧ v9.toInt ≤ 17 := by rw [e10]; exact Iv_4_3 i0
      intro v13 e14
      intro v15 e16
      show s0 = s0 ∧ (True)
      exact ⟨rfl, (trivial)⟩
  ·
    have z1 : (Int32.ofInt 1).toInt = 1 := by decide
    have z2 : (Int32.ofInt 2).toInt = 2 := by decide
    refine ⟨Nat.le_of_ble_eq_true rfl, [], ?_, fun _ h => absurd h List.not_mem_nil⟩
    ·
      intro v1 e2
      have g3 : s0.1 23 2 = v1 := by rw [e2]
      have b4 : (1 : Int) ≤ v1.toInt ∧ v1.toInt ≤ 5000 := by rw [e2]; exact Iv_23_2 i0
      intro v5 e6
      intro v7 e8
      intro v9 e10
      have g11 : s0.1 23 3 = v9 := by rw [e10]
      have b12 : (2 : Int) ≤ v9.toInt ∧ v9.toInt ≤ 17 := by rw [e10]; exact Iv_23_3 i0
      intro v13 e14
      intro v15 e16
      show s0 = s0 ∧ (True)
      exact ⟨rfl, (trivial)⟩
def o_X6_valueOf : List vg_I := [(0, .aload_n 0, 1, 0, 0, 0, 0), (1, .iload_n 1, 1, 0, 0, 0, 0), (2, .aload_n 0, 1, 0, 0, 0, 0), (3, .invokevirtual 38, 3, 0, 6, 0, 709), (6, .isub, 1, 0, 0, 0, 0), (7, .invokevirtual 42, 3, 1, 6, 1, 710), (10, .ireturn, 1, 0, 0, 0, 0)]
set_option maxRecDepth 100000 in
set_option maxHeartbeats 4000000 in
theorem c_X6_valueOf (l : Launch) (G : vg_G) (hp : vg_Hp G) : vg_Ct l G vg_sh r_X6_valueOf := by
  refine vg_meth hp vg_sh_ok r_X6_valueOf k_X6_valueOf rfl (fun h => by cases h) o_X6_valueOf [r_X6_besides, r_X6_valueOfSmall] false (by decide +kernel) (by decide +kernel) ⟨_, _, rfl, rfl⟩ (List.forall_mem_cons.mpr ⟨⟨c_X6_besides l G hp, Nat.le_of_ble_eq_true rfl, Nat.le_of_ble_eq_true rfl⟩, List.forall_mem_cons.mpr ⟨⟨c_X6_valueOfSmall l G hp, Nat.le_of_ble_eq_true rfl, Nat.le_of_ble_eq_true rfl⟩, fun _ h => absurd h List.not_mem_nil⟩⟩) (fun h => by cases h) 600 ?_
  intro as s0 hpre
  obtain ⟨r, a1, rfl, hr, i0⟩ := hpre
  simp only [List.mem_cons, List.not_mem_nil, or_false] at hr
  rcases hr with rfl | rfl
  ·
    refine ⟨Nat.le_of_ble_eq_true rfl, [], ?_, fun _ h => absurd h List.not_mem_nil⟩
    ·
      refine And.intro (Nat.le_of_ble_eq_true rfl) (And.intro ⟨4, rfl, by decide, i0⟩ ?_)
      intro v1 s3 h2
      have h2 : s3 = s0 ∧ (True) := h2
      have q6 := h2.1.symm
      subst q6
      intro v7 e8
      refine And.intro (Nat.le_of_ble_eq_true rfl) (And.intro ⟨4, v7, rfl, by decide, i0⟩ ?_)
      intro v9 s11 h10
      have h10 : s11 = s0 ∧ (True) := h10
      have q14 := h10.1.symm
      subst q14
      show s0 = s0 ∧ (True)
      exact ⟨rfl, (trivial)⟩
  ·
    refine ⟨Nat.le_of_ble_eq_true rfl, [], ?_, fun _ h => absurd h List.not_mem_nil⟩
    ·
      refine And.intro (Nat.le_of_ble_eq_true rfl) (And.intro ⟨23, rfl, by decide, i0⟩ ?_)
      intro v1 s3 h2
      have h2 : s3 = s0 ∧ (True) := h2
      have q6 := h2.1.symm
      subst q6
      intro v7 e8
      refine And.intro (Nat.le_of_ble_eq_true rfl) (And.intro ⟨23, v7, rfl, by decide, i0⟩ ?_)
      intro v9 s11 h10
      have h10 : s11 = s0 ∧ (True) := h10
      have q14 := h10.1.symm
      subst q14
      show s0 = s0 ∧ (True)
      exact ⟨rfl, (trivial)⟩
def o_X6_nearest : List vg_I := [(0, .iload_n 1, 1, 0, 0, 0, 0), (1, .aload_n 0, 1, 0, 0, 0, 0), (2, .getfield 18, 3, 145, 6, 2, 0), (5, .aload_n 0, 1, 0, 0, 0, 0), (6, .getfield 21, 3, 147, 6, 3, 0), (9, .iconst 2, 1, 0, 0, 0, 0), (10, .isub, 1, 0, 0, 0, 0), (11, .imul, 1, 0, 0, 0, 0), (12, .iadd, 1, 0, 0, 0, 0), (13, .ineg, 1, 0, 0, 0, 0), (14, .iconst 2, 1, 0, 0, 0, 0), (15, .aload_n 0, 1, 0, 0, 0, 0), (16, .getfield 18, 3, 145, 6, 2, 0), (19, .imul, 1, 0, 0, 0, 0), (20, .invokestatic 46, 3, 0, 1, 2, 676), (23, .ineg, 1, 0, 0, 0, 0), (24, .istore_n 2, 1, 0, 0, 0, 0), (25, .iconst 0, 1, 0, 0, 0, 0), (26, .aload_n 0, 1, 0, 0, 0, 0), (27, .getfield 21, 3, 147, 6, 3, 0), (30, .iconst 1, 1, 0, 0, 0, 0), (31, .isub, 1, 0, 0, 0, 0), (32, .iload_n 2, 1, 0, 0, 0, 0), (33, .invokestatic 52, 3, 1, 1, 2, 679), (36, .invokestatic 55, 3, 2, 1, 2, 680), (39, .ireturn, 1, 0, 0, 0, 0)]
set_option maxRecDepth 100000 in
set_option maxHeartbeats 4000000 in
theorem c_X6_nearest (l : Launch) (G : vg_G) (hp : vg_Hp G) : vg_Ct l G vg_sh r_X6_nearest := by
  refine vg_meth hp vg_sh_ok r_X6_nearest k_X6_nearest rfl (fun h => by cases h) o_X6_nearest [r_J9_floorDiv_7cf53, r_J9_min_7cf53, r_J9_max_7cf53] false (by decide +kernel) (by decide +kernel) ⟨_, _, rfl, rfl⟩ (List.forall_mem_cons.mpr ⟨⟨c_J9_floorDiv_7cf53 l G hp, Nat.le_of_ble_eq_true rfl, Nat.le_of_ble_eq_true rfl⟩, List.forall_mem_cons.mpr ⟨⟨c_J9_min_7cf53 l G hp, Nat.le_of_ble_eq_true rfl, Nat.le_of_ble_eq_true rfl⟩, List.forall_mem_cons.mpr ⟨⟨c_J9_max_7cf53 l G hp, Nat.le_of_ble_eq_true rfl, Nat.le_of_ble_eq_true rfl⟩, fun _ h => absurd h List.not_mem_nil⟩⟩⟩) (fun h => by cases h) 600 ?_
  intro as s0 hpre
  obtain ⟨r, a1, rfl, hr, i0⟩ := hpre
  simp only [List.mem_cons, List.not_mem_nil, or_false] at hr
  rcases hr with rfl | rfl
  ·
    have z0 : (Int32.ofInt 0).toInt = 0 := by decide
    have z1 : (Int32.ofInt 1).toInt = 1 := by decide
    have z2 : (Int32.ofInt 2).toInt = 2 := by decide
    refine ⟨Nat.le_of_ble_eq_true rfl, [], ?_, fun _ h => absurd h List.not_mem_nil⟩
    ·
      intro v1 e2
      have g3 : s0.1 4 2 = v1 := by rw [e2]
      have b4 : (1 : Int) ≤ v1.toInt ∧ v1.toInt ≤ 5000 := by rw [e2]; exact Iv_4_2 i0
      intro v5 e6
      have g7 : s0.1 4 3 = v5 := by rw [e6]
      have b8 : (2 : Int) ≤ v5.toInt ∧ v5.toInt ≤ 17 := by rw [e6]; exact Iv_4_3 i0
      intro v9 e10
      have b11 := vg_sub e10 (by omega) (by omega)
      intro v12 e13
      intro v14 e15
      intro v16 e17
      intro v18 e19
      have w20 : v1 = v18 := by rw [e19, g3]
      subst w20
      intro v21 e22
      have b23 : v21.toInt = (2) * v1.toInt := vg_mulL e22 (by omega) (by omega) (by omega)
      refine And.intro (Nat.le_of_ble_eq_true rfl) (And.intro ⟨v16, v21, rfl, by omega⟩ ?_)
      intro v24 s26 h25
      have h25 : s26 = s0 ∧ (True) := h25
      have q29 := h25.1.symm
      subst q29
      intro v30 e31
      intro v32 e33
      have w34 : v5 = v32 := by rw [e33, g7]
      subst w34
      intro v35 e36
      have b37 := vg_sub e36 (by omega) (by omega)
      refine And.intro (Nat.le_of_ble_eq_true rfl) (And.intro ⟨v35, v30, rfl, trivial⟩ ?_)
      intro v38 s40 h39
      have h39 : s40 = s0 ∧ (v38.toInt ≤ v35.toInt ∧ v38.toInt ≤ v30.toInt ∧ (v38.toInt = v35.toInt ∨ v38.toInt = v30.toInt)) := h39
      have q43 := h39.1.symm
      subst q43
      have q44 := h39.2
      refine And.intro (Nat.le_of_ble_eq_true rfl) (And.intro ⟨(Int32.ofInt 0), v38, rfl, trivial⟩ ?_)
      intro v45 s47 h46
      have h46 : s47 = s0 ∧ ((Int32.ofInt 0).toInt ≤ v45.toInt ∧ v38.toInt ≤ v45.toInt ∧ (v45.toInt = (Int32.ofInt 0).toInt ∨ v45.toInt = v38.toInt)) := h46
      have q50 := h46.1.symm
      subst q50
      have q51 := h46.2
      show s0 = s0 ∧ (True)
      exact ⟨rfl, (trivial)⟩
  ·
    have z0 : (Int32.ofInt 0).toInt = 0 := by decide
    have z1 : (Int32.ofInt 1).toInt = 1 := by decide
    have z2 : (Int32.ofInt 2).toInt = 2 := by decide
    refine ⟨Nat.le_of_ble_eq_true rfl, [], ?_, fun _ h => absurd h List.not_mem_nil⟩
    ·
      intro v1 e2
      have g3 : s0.1 23 2 = v1 := by rw [e2]
      have b4 : (1 : Int) ≤ v1.toInt ∧ v1.toInt ≤ 5000 := by rw [e2]; exact Iv_23_2 i0
      intro v5 e6
      have g7 : s0.1 23 3 = v5 := by rw [e6]
      have b8 : (2 : Int) ≤ v5.toInt ∧ v5.toInt ≤ 17 := by rw [e6]; exact Iv_23_3 i0
      intro v9 e10
      have b11 := vg_sub e10 (by omega) (by omega)
      intro v12 e13
      intro v14 e15
      intro v16 e17
      intro v18 e19
      have w20 : v1 = v18 := by rw [e19, g3]
      subst w20
      intro v21 e22
      have b23 : v21.toInt = (2) * v1.toInt := vg_mulL e22 (by omega) (by omega) (by omega)
      refine And.intro (Nat.le_of_ble_eq_true rfl) (And.intro ⟨v16, v21, rfl, by omega⟩ ?_)
      intro v24 s26 h25
      have h25 : s26 = s0 ∧ (True) := h25
      have q29 := h25.1.symm
      subst q29
      intro v30 e31
      intro v32 e33
      have w34 : v5 = v32 := by rw [e33, g7]
      subst w34
      intro v35 e36
      have b37 := vg_sub e36 (by omega) (by omega)
      refine And.intro (Nat.le_of_ble_eq_true rfl) (And.intro ⟨v35, v30, rfl, trivial⟩ ?_)
      intro v38 s40 h39
      have h39 : s40 = s0 ∧ (v38.toInt ≤ v35.toInt ∧ v38.toInt ≤ v30.toInt ∧ (v38.toInt = v35.toInt ∨ v38.toInt = v30.toInt)) := h39
      have q43 := h39.1.symm
      subst q43
      have q44 := h39.2
      refine And.intro (Nat.le_of_ble_eq_true rfl) (And.intro ⟨(Int32.ofInt 0), v38, rfl, trivial⟩ ?_)
      intro v45 s47 h46
      have h46 : s47 = s0 ∧ ((Int32.ofInt 0).toInt ≤ v45.toInt ∧ v38.toInt ≤ v45.toInt ∧ (v45.toInt = (Int32.ofInt 0).toInt ∨ v45.toInt = v38.toInt)) := h46
      have q50 := h46.1.symm
      subst q50
      have q51 := h46.2
      show s0 = s0 ∧ (True)
      exact ⟨rfl, (trivial)⟩
def o_X6_elementsOf : List vg_I := [(0, .iload_n 0, 1, 0, 0, 0, 0), (1, .iconst 2, 1, 0, 0, 0, 0), (2, .if_icmp .ne 15, 3, 0, 0, 0, 0), (5, .iload_n 2, 1, 0, 0, 0, 0), (6, .iconst 1, 1, 0, 0, 0, 0), (7, .isub, 1, 0, 0, 0, 0), (8, .iconst 1, 1, 0, 0, 0, 0), (9, .iload_n 1, 1, 0, 0, 0, 0), (10, .ishl, 1, 0, 0, 0, 0), (11, .iconst 1, 1, 0, 0, 0, 0), (12, .isub, 1, 0, 0, 0, 0), (13, .imul, 1, 0, 0, 0, 0), (14, .goto 6, 3, 0, 0, 0, 0), (17, .iload_n 2, 1, 0, 0, 0, 0), (18, .iconst 1, 1, 0, 0, 0, 0), (19, .isub, 1, 0, 0, 0, 0), (20, .ireturn, 1, 0, 0, 0, 0)]
set_option maxRecDepth 100000 in
set_option maxHeartbeats 4000000 in
theorem c_X6_elementsOf (l : Launch) (G : vg_G) (hp : vg_Hp G) : vg_Ct l G vg_sh r_X6_elementsOf := by
  refine vg_meth hp vg_sh_ok r_X6_elementsOf k_X6_elementsOf rfl (fun h => by cases h) o_X6_elementsOf [] false (by decide +kernel) (by decide +kernel) ⟨_, _, rfl, rfl⟩ (fun _ h => absurd h List.not_mem_nil) (fun h => by cases h) 600 ?_
  intro as s0 hpre
  obtain ⟨a1, a2, a3, rfl, p0⟩ := hpre
  have z1 : (Int32.ofInt 1).toInt = 1 := by decide
  have z2 : (Int32.ofInt 2).toInt = 2 := by decide
  refine ⟨Nat.le_of_ble_eq_true rfl, [], ?_, fun _ h => absurd h List.not_mem_nil⟩
  ·
    refine And.intro (fun c1 => ?_) (fun c1 => ?_)
    · have c1 : ¬ a1.toInt = (Int32.ofInt 2).toInt := c1
      intro v2 e3
      have b4 := vg_sub e3 (by omega) (by omega)
      show s0 = s0 ∧ (1 ≤ v2.toInt ∧ v2.toInt ≤ 240)
      exact ⟨rfl, (by first | trivial | omega | assumption)⟩
    · have c1 : ¬ (¬ a1.toInt = (Int32.ofInt 2).toInt) := c1
      intro v5 e6
      have b7 := vg_sub e6 (by omega) (by omega)
      intro v8 e9
      have b10 := vg_shl1 e9 (by omega) (by omega) (by omega)
      intro v11 e12
      have b13 := vg_sub e12 (by omega) (by omega)
      intro v14 e15
      have b16 := (vg_mulr e15 (by omega) (by omega) (by omega) (by omega)).2
      show s0 = s0 ∧ (1 ≤ v14.toInt ∧ v14.toInt ≤ 240)
      exact ⟨rfl, (by first | trivial | omega | assumption)⟩
def o_X5_begin : List vg_I := [(0, .aload_n 0, 1, 0, 0, 0, 0), (1, .getfield 16, 3, 180, 5, 1, 0), (4, .iconst 0, 1, 0, 0, 0, 0), (5, .invokestatic 23, 3, 0, 1, 2, 500), (8, .aload_n 0, 1, 0, 0, 0, 0), (9, .getfield 20, 3, 182, 5, 2, 0), (12, .iconst 0, 1, 0, 0, 0, 0), (13, .invokestatic 23, 3, 0, 1, 2, 500), (16, .aload_n 0, 1, 0, 0, 0, 0), (17, .iconst 0, 1, 0, 0, 0, 0), (18, .putfield 29, 3, 183, 5, 3, 0), (21, .aload_n 0, 1, 0, 0, 0, 0), (22, .aload_n 0, 1, 0, 0, 0, 0), (23, .getfield 12, 3, 178, 5, 0, 0), (26, .getfield 33, 3, 158, 6, 7, 0), (29, .putfield 36, 3, 185, 5, 4, 0), (32, .aload_n 0, 1, 0, 0, 0, 0), (33, .iconst 0, 1, 0, 0, 0, 0), (34, .putfield 39, 3, 187, 5, 5, 0), (37, .aload_n 0, 1, 0, 0, 0, 0), (38, .iconst 0, 1, 0, 0, 0, 0), (39, .putfield 42, 3, 189, 5, 6, 0), (42, .aload_n 0, 1, 0, 0, 0, 0), (43, .iconst 0, 1, 0, 0, 0, 0), (44, .putfield 45, 3, 192, 5, 8, 0), (47, .aload_n 0, 1, 0, 0, 0, 0), (48, .lconst 0, 1, 0, 0, 0, 0), (49, .putfield 48, 3, 194, 5, 9, 2), (52, .aload_n 0, 1, 0, 0, 0, 0), (53, .lconst 0, 1, 0, 0, 0, 0), (54, .putfield 52, 3, 196, 5, 10, 2), (57, .aload_n 0, 1, 0, 0, 0, 0), (58, .lconst 0, 1, 0, 0, 0, 0), (59, .putfield 55, 3, 198, 5, 11, 2), (62, .aload_n 0, 1, 0, 0, 0, 0), (63, .lconst 0, 1, 0, 0, 0, 0), (64, .putfield 58, 3, 200, 5, 12, 2), (67, .aload_n 0, 1, 0, 0, 0, 0), (68, .lconst 0, 1, 0, 0, 0, 0), (69, .putfield 61, 3, 202, 5, 13, 2), (72, .return_, 1, 0, 0, 0, 0)]
set_option maxRecDepth 100000 in
set_option maxHeartbeats 4000000 in
theorem c_X5_begin (l : Launch) (G : vg_G) (hp : vg_Hp G) : vg_Ct l G vg_sh r_X5_begin := by
  refine vg_meth hp vg_sh_ok r_X5_begin k_X5_begin rfl (fun h => by cases h) o_X5_begin [r_J7_fill_53178] false (by decide +kernel) (by decide +kernel) ⟨_, _, rfl, rfl⟩ (List.forall_mem_cons.mpr ⟨⟨c_J7_fill_53178 l G hp, Nat.le_of_ble_eq_true rfl, Nat.le_of_ble_eq_true rfl⟩, fun _ h => absurd h List.not_mem_nil⟩) (fun h => by cases h) 600 ?_
  intro as s0 hpre
  obtain ⟨r, rfl, hr, i0⟩ := hpre
  simp only [List.mem_cons, List.not_mem_nil, or_false] at hr
  rcases hr with rfl | rfl
  ·
    have z0 : (Int32.ofInt 0).toInt = 0 := by decide
    refine ⟨Nat.le_of_ble_eq_true rfl, [], ?_, fun _ h => absurd h List.not_mem_nil⟩
    ·
      refine And.intro (Nat.le_of_ble_eq_true rfl) (And.intro ⟨5, (Int32.ofInt 0), rfl, by decide, i0⟩ ?_)
      intro s2 h1
      have h1 : Iv s2 ∧ Kp s0 s2 ∧ (True) := h1
      have i3 := h1.1
      have k4 : Kp s0 s2 := Kx.tr Kx.rf (h1.2.1)
      refine And.intro (Nat.le_of_ble_eq_true rfl) (And.intro ⟨6, (Int32.ofInt 0), rfl, by decide, i3⟩ ?_)
      intro s6 h5
      have h5 : Iv s6 ∧ Kp s2 s6 ∧ (True) := h5
      have i7 := h5.1
      have k8 : Kp s0 s6 := Kx.tr k4 (h5.2.1)
      intro s9 e10
      have i11 : Iv s9 := Iv.u1 i7 e10 rfl
      have k12 : Kp s0 s9 := Kx.u1 k8 e10 rfl
      intro v13 e14
      have g15 : s6.1 4 7 = v13 := by rw [e14, e10, vg_u1_ne (a := 4) (k := 3) (by decide)]
      intro s16 e17
      have i18 : Iv s16 := Iv.u1 i11 e17 rfl
      have k19 : Kp s0 s16 := Kx.u1 k12 e17 rfl
      intro s20 e21
      have i22 : Iv s20 := Iv.u1 i18 e21 rfl
      have k23 : Kp s0 s20 := Kx.u1 k19 e21 rfl
      intro s24 e25
      have i26 : Iv s24 := Iv.u1 i22 e25 rfl
      have k27 : Kp s0 s24 := Kx.u1 k23 e25 rfl
      intro s28 e29
      have i30 : Iv s28 := Iv.u1 i26 e29 rfl
      have k31 : Kp s0 s28 := Kx.u1 k27 e29 rfl
      intro s32 e33
      have i34 : Iv s32 := Iv.u2 i30 e33
      have k35 : Kp s0 s32 := Kx.u2 k31 e33 (vg_kq_no ⟨rfl, rfl, rfl⟩).1
      intro s36 e37
      have i38 : Iv s36 := Iv.u2 i34 e37
      have k39 : Kp s0 s36 := Kx.u2 k35 e37 (vg_kq_no ⟨rfl, rfl, rfl⟩).1
      intro s40 e41
      have i42 : Iv s40 := Iv.u2 i38 e41
      have k43 : Kp s0 s40 := Kx.u2 k39 e41 (vg_kq_no ⟨rfl, rfl, rfl⟩).1
      intro s44 e45
      have i46 : Iv s44 := Iv.u2 i42 e45
      have k47 : Kp s0 s44 := Kx.u2 k43 e45 (vg_kq_no ⟨rfl, rfl, rfl⟩).1
      intro s48 e49
      have i50 : Iv s48 := Iv.u2 i46 e49
      have k51 : Kp s0 s48 := Kx.u2 k47 e49 (vg_kq_no ⟨rfl, rfl, rfl⟩).1
      show Iv s48 ∧ Kp s0 s48 ∧ (True)
      exact ⟨i50, k51, (trivial)⟩
  ·
    have z0 : (Int32.ofInt 0).toInt = 0 := by decide
    refine ⟨Nat.le_of_ble_eq_true rfl, [], ?_, fun _ h => absurd h List.not_mem_nil⟩
    ·
      refine And.intro (Nat.le_of_ble_eq_true rfl) (And.intro ⟨24, (Int32.ofInt 0), rfl, by decide, i0⟩ ?_)
      intro s2 h1
      have h1 : Iv s2 ∧ Kp s0 s2 ∧ (True) := h1
      have i3 := h1.1
      have k4 : Kp s0 s2 := Kx.tr Kx.rf (h1.2.1)
      refine And.intro (Nat.le_of_ble_eq_true rfl) (And.intro ⟨25, (Int32.ofInt 0), rfl, by decide, i3⟩ ?_)
      intro s6 h5
      have h5 : Iv s6 ∧ Kp s2 s6 ∧ (True) := h5
      have i7 := h5.1
      have k8 : Kp s0 s6 := Kx.tr k4 (h5.2.1)
      intro s9 e10
      have i11 : Iv s9 := Iv.u1 i7 e10 rfl
      have k12 : Kp s0 s9 := Kx.u1 k8 e10 rfl
      intro v13 e14
      have g15 : s6.1 23 7 = v13 := by rw [e14, e10, vg_u1_ne (a := 23) (k := 22) (by decide)]
      intro s16 e17
      have i18 : Iv s16 := Iv.u1 i11 e17 rfl
      have k19 : Kp s0 s16 := Kx.u1 k12 e17 rfl
      intro s20 e21
      have i22 : Iv s20 := Iv.u1 i18 e21 rfl
      have k23 : Kp s0 s20 := Kx.u1 k19 e21 rfl
      intro s24 e25
      have i26 : Iv s24 := Iv.u1 i22 e25 rfl
      have k27 : Kp s0 s24 := Kx.u1 k23 e25 rfl
      intro s28 e29
      have i30 : Iv s28 := Iv.u1 i26 e29 rfl
      have k31 : Kp s0 s28 := Kx.u1 k27 e29 rfl
      intro s32 e33
      have i34 : Iv s32 := Iv.u2 i30 e33
      have k35 : Kp s0 s32 := Kx.u2 k31 e33 (vg_kq_no ⟨rfl, rfl, rfl⟩).1
      intro s36 e37
      have i38 : Iv s36 := Iv.u2 i34 e37
      have k39 : Kp s0 s36 := Kx.u2 k35 e37 (vg_kq_no ⟨rfl, rfl, rfl⟩).1
      intro s40 e41
      have i42 : Iv s40 := Iv.u2 i38 e41
      have k43 : Kp s0 s40 := Kx.u2 k39 e41 (vg_kq_no ⟨rfl, rfl, rfl⟩).1
      intro s44 e45
      have i46 : Iv s44 := Iv.u2 i42 e45
      have k47 : Kp s0 s44 := Kx.u2 k43 e45 (vg_kq_no ⟨rfl, rfl, rfl⟩).1
      intro s48 e49
      have i50 : Iv s48 := Iv.u2 i46 e49
      have k51 : Kp s0 s48 := Kx.u2 k47 e49 (vg_kq_no ⟨rfl, rfl, rfl⟩).1
      show Iv s48 ∧ Kp s0 s48 ∧ (True)
      exact ⟨i50, k51, (trivial)⟩
def o_X5_beginTone : List vg_I := [(0, .aload_n 0, 1, 0, 0, 0, 0), (1, .getfield 12, 3, 178, 5, 0, 0), (4, .aload_n 1, 1, 0, 0, 0, 0), (5, .invokevirtual 64, 3, 0, 6, 1, 956), (8, .aload_n 0, 1, 0, 0, 0, 0), (9, .getfield 12, 3, 178, 5, 0, 0), (12, .iconst 0, 1, 0, 0, 0, 0), (13, .putfield 68, 3, 156, 6, 6, 0), (16, .aload_n 0, 1, 0, 0, 0, 0), (17, .invokevirtual 71, 3, 1, 5, 0, 960), (20, .return_, 1, 0, 0, 0, 0)]
set_option maxRecDepth 100000 in
set_option maxHeartbeats 4000000 in
theorem c_X5_beginTone (l : Launch) (G : vg_G) (hp : vg_Hp G) : vg_Ct l G vg_sh r_X5_beginTone := by
  refine vg_meth hp vg_sh_ok r_X5_beginTone k_X5_beginTone rfl (fun h => by cases h) o_X5_beginTone [r_X6_copyFrom, r_X5_begin] false (by decide +kernel) (by decide +kernel) ⟨_, _, rfl, rfl⟩ (List.forall_mem_cons.mpr ⟨⟨c_X6_copyFrom l G hp, Nat.le_of_ble_eq_true rfl, Nat.le_of_ble_eq_true rfl⟩, List.forall_mem_cons.mpr ⟨⟨c_X5_begin l G hp, Nat.le_of_ble_eq_true rfl, Nat.le_of_ble_eq_true rfl⟩, fun _ h => absurd h List.not_mem_nil⟩⟩) (fun h => by cases h) 600 ?_
  intro as s0 hpre
  obtain ⟨r, a1, rfl, hr, ha1, i0⟩ := hpre
  simp only [List.mem_cons, List.not_mem_nil, or_false] at hr
  rcases hr with rfl
  ·
    simp only [List.mem_cons, List.not_mem_nil, or_false] at ha1
    rcases ha1 with rfl
    ·
      have z0 : (Int32.ofInt 0).toInt = 0 := by decide
      refine ⟨Nat.le_of_ble_eq_true rfl, [], ?_, fun _ h => absurd h List.not_mem_nil⟩
      ·
        refine And.intro (Nat.le_of_ble_eq_true rfl) (And.intro ⟨23, 4, rfl, by decide, by decide, i0⟩ ?_)
        intro s2 h1
        have h1 : Iv s2 ∧ Kp s0 s2 ∧ (True) := h1
        have i3 := h1.1
        have k4 : Kp s0 s2 := Kx.tr Kx.rf (h1.2.1)
        intro s5 e6
        have i7 : Iv s5 := Iv.c1 (lo := 0) (hi := 5000) i3 e6 rfl (by omega) (by omega)
        have k8 : Kp s0 s5 := Kx.u1 k4 e6 rfl
        refine And.intro (Nat.le_of_ble_eq_true rfl) (And.intro ⟨22, rfl, by decide, i7⟩ ?_)
        intro s10 h9
        have h9 : Iv s10 ∧ Kp s5 s10 ∧ (True) := h9
        have i11 := h9.1
        have k12 : Kp s0 s10 := Kx.tr k8 (h9.2.1)
        show Iv s10 ∧ Kp s0 s10 ∧ (True)
        exact ⟨i11, k12, (trivial)⟩
def o_X5_copyFrom : List vg_I := [(0, .aload_n 0, 1, 0, 0, 0, 0), (1, .getfield 12, 3, 178, 5, 0, 0), (4, .aload_n 1, 1, 0, 0, 0, 0), (5, .getfield 12, 3, 178, 5, 0, 0), (8, .invokevirtual 64, 3, 0, 6, 1, 956), (11, .aload_n 0, 1, 0, 0, 0, 0), (12, .invokevirtual 71, 3, 1, 5, 0, 960), (15, .aload_n 1, 1, 0, 0, 0, 0), (16, .getfield 16, 3, 180, 5, 1, 0), (19, .iconst 0, 1, 0, 0, 0, 0), (20, .aload_n 0, 1, 0, 0, 0, 0), (21, .getfield 16, 3, 180, 5, 1, 0), (24, .iconst 0, 1, 0, 0, 0, 0), (25, .iconst 4, 1, 0, 0, 0, 0), (26, .invokestatic 74, 3, 0, 3, 0, 966), (29, .aload_n 1, 1, 0, 0, 0, 0), (30, .getfield 20, 3, 182, 5, 2, 0), (33, .iconst 0, 1, 0, 0, 0, 0), (34, .aload_n 0, 1, 0, 0, 0, 0), (35, .getfield 20, 3, 182, 5, 2, 0), (38, .iconst 0, 1, 0, 0, 0, 0), (39, .bipush 6, 2, 0, 0, 0, 0), (41, .invokestatic 74, 3, 0, 3, 0, 966), (44, .aload_n 0, 1, 0, 0, 0, 0), (45, .aload_n 1, 1, 0, 0, 0, 0), (46, .getfield 29, 3, 183, 5, 3, 0), (49, .putfield 29, 3, 183, 5, 3, 0), (52, .aload_n 0, 1, 0, 0, 0, 0), (53, .aload_n 1, 1, 0, 0, 0, 0), (54, .getfield 36, 3, 185, 5, 4, 0), (57, .putfield 36, 3, 185, 5, 4, 0), (60, .return_, 1, 0, 0, 0, 0)]
set_option maxRecDepth 100000 in
set_option maxHeartbeats 4000000 in
theorem c_X5_copyFrom (l : Launch) (G : vg_G) (hp : vg_Hp G) : vg_Ct l G vg_sh r_X5_copyFrom := by
  refine vg_meth hp vg_sh_ok r_X5_copyFrom k_X5_copyFrom rfl (fun h => by cases h) o_X5_copyFrom [r_X6_copyFrom, r_X5_begin] true (by decide +kernel) (by decide +kernel) ⟨_, _, rfl, rfl⟩ (List.forall_mem_cons.mpr ⟨⟨c_X6_copyFrom l G hp, Nat.le_of_ble_eq_true rfl, Nat.le_of_ble_eq_true rfl⟩, List.forall_mem_cons.mpr ⟨⟨c_X5_begin l G hp, Nat.le_of_ble_eq_true rfl, Nat.le_of_ble_eq_true rfl⟩, fun _ h => absurd h List.not_mem_nil⟩⟩) (fun _ => ⟨⟨Nat.le_of_ble_eq_true rfl, Nat.le_of_ble_eq_true rfl⟩, vg_cpw_in⟩) 600 ?_
  intro as s0 hpre
  obtain ⟨r, a1, rfl, hr, ha1, i0⟩ := hpre
  simp only [List.mem_cons, List.not_mem_nil, or_false] at hr
  rcases hr with rfl
  ·
    simp only [List.mem_cons, List.not_mem_nil, or_false] at ha1
    rcases ha1 with rfl
    ·
      have z0 : (Int32.ofInt 0).toInt = 0 := by decide
      have z4 : (Int32.ofInt 4).toInt = 4 := by decide
      have z6 : (Int32.ofInt 6).toInt = 6 := by decide
      refine ⟨Nat.le_of_ble_eq_true rfl, [], ?_, fun _ h => absurd h List.not_mem_nil⟩
      ·
        refine And.intro (Nat.le_of_ble_eq_true rfl) (And.intro ⟨23, 4, rfl, by decide, by decide, i0⟩ ?_)
        intro s2 h1
        have h1 : Iv s2 ∧ Kp s0 s2 ∧ (True) := h1
        have i3 := h1.1
        have k4 : Kp s0 s2 := Kx.tr Kx.rf (h1.2.1)
        refine And.intro (Nat.le_of_ble_eq_true rfl) (And.intro ⟨22, rfl, by decide, i3⟩ ?_)
        intro s6 h5
        have h5 : Iv s6 ∧ Kp s2 s6 ∧ (True) := h5
        have i7 := h5.1
        have k8 : Kp s0 s6 := Kx.tr k4 (h5.2.1)
        refine And.intro (Nat.le_of_ble_eq_true rfl) (And.intro (by omega) (And.intro (by omega) (And.intro (by omega) (And.intro (by omega) (And.intro (by omega) ?_)))))
        intro s9 e10
        have i11 : Iv s9 := Iv.w1 i7 e10 rfl
        have k12 : Kp s0 s9 := Kx.w1 k8 e10 (fun _ => rfl)
        refine And.intro (Nat.le_of_ble_eq_true rfl) (And.intro (by omega) (And.intro (by omega) (And.intro (by omega) (And.intro (by omega) (And.intro (by omega) ?_)))))
        intro s13 e14
        have i15 : Iv s13 := Iv.w1 i11 e14 rfl
        have k16 : Kp s0 s13 := Kx.w1 k12 e14 (fun _ => rfl)
        intro v17 e18
        have g19 : s6.1 3 3 = v17 := by rw [e18, e14, vg_w1_at (a := 3) (k := 25) (by decide), e10, vg_w1_at (a := 3) (k := 24) (by decide)]
        intro s20 e21
        have i22 : Iv s20 := Iv.u1 i15 e21 rfl
        have k23 : Kp s0 s20 := Kx.u1 k16 e21 rfl
        intro v24 e25
        have g26 : s6.1 3 4 = v24 := by rw [e25, e21, vg_u1_ne (a := 3) (k := 22) (by decide), e14, vg_w1_at (a := 3) (k := 25) (by decide), e10, vg_w1_at (a := 3) (k := 24) (by decide)]
        intro s27 e28
        have i29 : Iv s27 := Iv.u1 i22 e28 rfl
        have k30 : Kp s0 s27 := Kx.u1 k23 e28 rfl
        show Iv s27 ∧ Kp s0 s27 ∧ (True)
        exact ⟨i29, k30, (trivial)⟩
def o_X5_gapNow : List vg_I := [(0, .aload_n 0, 1, 0, 0, 0, 0), (1, .getfield 52, 3, 196, 5, 10, 0), (4, .aload_n 0, 1, 0, 0, 0, 0), (5, .getfield 48, 3, 194, 5, 9, 0), (8, .lsub, 1, 0, 0, 0, 0), (9, .lreturn, 1, 0, 0, 0, 0)]
set_option maxRecDepth 100000 in
set_option maxHeartbeats 4000000 in
theorem c_X5_gapNow (l : Launch) (G : vg_G) (hp : vg_Hp G) : vg_Ct l G vg_sh r_X5_gapNow := by
  refine vg_meth hp vg_sh_ok r_X5_gapNow k_X5_gapNow rfl (fun h => by cases h) o_X5_gapNow [] false (by decide +kernel) (by decide +kernel) ⟨_, _, rfl, rfl⟩ (fun _ h => absurd h List.not_mem_nil) (fun h => by cases h) 600 ?_
  intro as s0 hpre
  obtain ⟨r, rfl, hr, i0⟩ := hpre
  simp only [List.mem_cons, List.not_mem_nil, or_false] at hr
  rcases hr with rfl | rfl
  ·
    refine ⟨Nat.le_of_ble_eq_true rfl, [], ?_, fun _ h => absurd h List.not_mem_nil⟩
    ·
      intro v1 e2
      intro v3 e4
      intro v5 e6
      show s0 = s0 ∧ (True)
      exact ⟨rfl, (trivial)⟩
  ·
    refine ⟨Nat.le_of_ble_eq_true rfl, [], ?_, fun _ h => absurd h List.not_mem_nil⟩
    ·
      intro v1 e2
      intro v3 e4
      intro v5 e6
      show s0 = s0 ∧ (True)
      exact ⟨rfl, (trivial)⟩
def o_X5_drawDither : List vg_I := [(0, .aload_n 0, 1, 0, 0, 0, 0), (1, .getfield 12, 3, 178, 5, 0, 0), (4, .getfield 68, 3, 156, 6, 6, 0), (7, .ifCond .ne 5, 3, 0, 0, 0, 0), (10, .iconst 0, 1, 0, 0, 0, 0), (11, .ireturn, 1, 0, 0, 0, 0), (12, .aload_n 0, 1, 0, 0, 0, 0), (13, .aload_n 0, 1, 0, 0, 0, 0), (14, .getfield 36, 3, 185, 5, 4, 0), (17, .i2l, 1, 0, 0, 0, 0), (18, .ldc2_w 158, 3, 653, 0, 0, 1103515245), (21, .lmul, 1, 0, 0, 0, 0), (22, .ldc2_w 160, 3, 654, 0, 0, 12345), (25, .ladd, 1, 0, 0, 0, 0), (26, .ldc2_w 162, 3, 655, 0, 0, 2147483647), (29, .land, 1, 0, 0, 0, 0), (30, .l2i, 1, 0, 0, 0, 0), (31, .putfield 36, 3, 185, 5, 4, 0), (34, .aload_n 0, 1, 0, 0, 0, 0), (35, .getfield 36, 3, 185, 5, 4, 0), (38, .ldc 164, 2, 656, 0, 0, 65536), (40, .idiv, 1, 0, 0, 0, 0), (41, .iconst 2, 1, 0, 0, 0, 0), (42, .aload_n 0, 1, 0, 0, 0, 0), (43, .getfield 12, 3, 178, 5, 0, 0), (46, .getfield 68, 3, 156, 6, 6, 0), (49, .imul, 1, 0, 0, 0, 0), (50, .iconst 1, 1, 0, 0, 0, 0), (51, .iadd, 1, 0, 0, 0, 0), (52, .irem, 1, 0, 0, 0, 0), (53, .aload_n 0, 1, 0, 0, 0, 0), (54, .getfield 12, 3, 178, 5, 0, 0), (57, .getfield 68, 3, 156, 6, 6, 0), (60, .isub, 1, 0, 0, 0, 0), (61, .ireturn, 1, 0, 0, 0, 0)]
set_option maxRecDepth 100000 in
set_option maxHeartbeats 4000000 in
theorem c_X5_drawDither (l : Launch) (G : vg_G) (hp : vg_Hp G) : vg_Ct l G vg_sh r_X5_drawDither := by
  refine vg_meth hp vg_sh_ok r_X5_drawDither k_X5_drawDither rfl (fun h => by cases h) o_X5_drawDither [] false (by decide +kernel) (by decide +kernel) ⟨_, _, rfl, rfl⟩ (fun _ h => absurd h List.not_mem_nil) (fun h => by cases h) 600 ?_
  intro as s0 hpre
  obtain ⟨r, rfl, hr, i0⟩ := hpre
  simp only [List.mem_cons, List.not_mem_nil, or_false] at hr
  rcases hr with rfl | rfl
  ·
    have z0 : (Int32.ofInt 0).toInt = 0 := by decide
    have z1 : (Int32.ofInt 1).toInt = 1 := by decide
    have z2 : (Int32.ofInt 2).toInt = 2 := by decide
    have z65536 : (Int32.ofInt 65536).toInt = 65536 := by decide
    refine ⟨Nat.le_of_ble_eq_true rfl, [], ?_, fun _ h => absurd h List.not_mem_nil⟩
    ·
      intro v1 e2
      have g3 : s0.1 4 6 = v1 := by rw [e2]
      have b4 : (0 : Int) ≤ v1.toInt ∧ v1.toInt ≤ 5000 := by rw [e2]; exact Iv_4_6 i0
      refine And.intro (fun c5 => ?_) (fun c5 => ?_)
      · have c5 : ¬ v1.toInt = 0 := c5
        intro v6 e7
        have g8 : s0.1 3 4 = v6 := by rw [e7]
        intro v9 e10
        intro v11 e12
        intro v13 e14
        intro v15 e16
        intro v17 e18
        intro s19 e20
        have i21 : Iv s19 := Iv.u1 i0 e20 rfl
        have k22 : Kp s0 s19 := Kx.u1 Kx.rf e20 rfl
        intro v23 e24
        have w25 : v17 = v23 := by rw [e24, e20]; exact vg_u1_self.symm
        subst w25
        refine And.intro (by omega) ?_
        intro v26 e27
        intro v28 e29
        have w30 : v1 = v28 := by rw [e29, e20, vg_u1_ne (a := 4) (k := 3) (by decide), g3]
        subst w30
        intro v31 e32
        have b33 : v31.toInt = (2) * v1.toInt := vg_mulL e32 (by omega) (by omega) (by omega)
        intro v34 e35
        have b36 := vg_add e35 (by omega) (by omega)
        refine And.intro (by omega) ?_
        intro v37 e38
        have b39 := vg_remx e38 (by omega)
        intro v40 e41
        have w42 : v1 = v40 := by rw [e41, e20, vg_u1_ne (a := 4) (k := 3) (by decide), g3]
        subst w42
        intro v43 e44
        show Iv s19 ∧ Kp s0 s19 ∧ (True)
        exact ⟨i21, k22, (trivial)⟩
      · have c5 : ¬ (¬ v1.toInt = 0) := c5
        show Iv s0 ∧ Kp s0 s0 ∧ (True)
        exact ⟨i0, Kx.rf, (trivial)⟩
  ·
    have z0 : (Int32.ofInt 0).toInt = 0 := by decide
    have z1 : (Int32.ofInt 1).toInt = 1 := by decide
    have z2 : (Int32.ofInt 2).toInt = 2 := by decide
    have z65536 : (Int32.ofInt 65536).toInt = 65536 := by decide
    refine ⟨Nat.le_of_ble_eq_true rfl, [], ?_, fun _ h => absurd h List.not_mem_nil⟩
    ·
      intro v1 e2
      have g3 : s0.1 23 6 = v1 := by rw [e2]
      have b4 : (0 : Int) ≤ v1.toInt ∧ v1.toInt ≤ 5000 := by rw [e2]; exact Iv_23_6 i0
      refine And.intro (fun c5 => ?_) (fun c5 => ?_)
      · have c5 : ¬ v1.toInt = 0 := c5
        intro v6 e7
        have g8 : s0.1 22 4 = v6 := by rw [e7]
        intro v9 e10
        intro v11 e12
        intro v13 e14
        intro v15 e16
        intro v17 e18
        intro s19 e20
        have i21 : Iv s19 := Iv.u1 i0 e20 rfl
        have k22 : Kp s0 s19 := Kx.u1 Kx.rf e20 rfl
        intro v23 e24
        have w25 : v17 = v23 := by rw [e24, e20]; exact vg_u1_self.symm
        subst w25
        refine And.intro (by omega) ?_
        intro v26 e27
        intro v28 e29
        have w30 : v1 = v28 := by rw [e29, e20, vg_u1_ne (a := 23) (k := 22) (by decide), g3]
        subst w30
        intro v31 e32
        have b33 : v31.toInt = (2) * v1.toInt := vg_mulL e32 (by omega) (by omega) (by omega)
        intro v34 e35
        have b36 := vg_add e35 (by omega) (by omega)
        refine And.intro (by omega) ?_
        intro v37 e38
        have b39 := vg_remx e38 (by omega)
        intro v40 e41
        have w42 : v1 = v40 := by rw [e41, e20, vg_u1_ne (a := 23) (k := 22) (by decide), g3]
        subst w42
        intro v43 e44
        show Iv s19 ∧ Kp s0 s19 ∧ (True)
        exact ⟨i21, k22, (trivial)⟩
      · have c5 : ¬ (¬ v1.toInt = 0) := c5
        show Iv s0 ∧ Kp s0 s0 ∧ (True)
        exact ⟨i0, Kx.rf, (trivial)⟩
def o_X5_hold : List vg_I := [(0, .iload_n 1, 1, 0, 0, 0, 0), (1, .aload_n 0, 1, 0, 0, 0, 0), (2, .getfield 12, 3, 178, 5, 0, 0), (5, .getfield 146, 3, 151, 6, 4, 0), (8, .invokestatic 149, 3, 0, 2, 2, 2), (11, .istore_n 2, 1, 0, 0, 0, 0), (12, .iload_n 2, 1, 0, 0, 0, 0), (13, .iload_n 1, 1, 0, 0, 0, 0), (14, .if_icmp .eq 31, 3, 0, 0, 0, 0), (17, .aload_n 0, 1, 0, 0, 0, 0), (18, .iconst 1, 1, 0, 0, 0, 0), (19, .putfield 80, 3, 191, 5, 7, 1), (22, .aload_n 0, 1, 0, 0, 0, 0), (23, .dup, 1, 0, 0, 0, 0), (24, .getfield 39, 3, 187, 5, 5, 0), (27, .iconst 1, 1, 0, 0, 0, 0), (28, .iadd, 1, 0, 0, 0, 0), (29, .putfield 39, 3, 187, 5, 5, 0), (32, .aload_n 0, 1, 0, 0, 0, 0), (33, .dup, 1, 0, 0, 0, 0), (34, .getfield 58, 3, 200, 5, 12, 0), (37, .iload_n 1, 1, 0, 0, 0, 0), (38, .iload_n 2, 1, 0, 0, 0, 0), (39, .isub, 1, 0, 0, 0, 0), (40, .i2l, 1, 0, 0, 0, 0), (41, .ladd, 1, 0, 0, 0, 0), (42, .putfield 58, 3, 200, 5, 12, 2), (45, .aload_n 0, 1, 0, 0, 0, 0), (46, .aload_n 0, 1, 0, 0, 0, 0), (47, .getfield 45, 3, 192, 5, 8, 0), (50, .iload_n 2, 1, 0, 0, 0, 0), (51, .invokestatic 154, 3, 1, 1, 1, 666), (54, .invokestatic 156, 3, 2, 1, 2, 669), (57, .putfield 45, 3, 192, 5, 8, 0), (60, .iload_n 2, 1, 0, 0, 0, 0), (61, .ireturn, 1, 0, 0, 0, 0)]
set_option maxRecDepth 100000 in
set_option maxHeartbeats 4000000 in
theorem c_X5_hold (l : Launch) (G : vg_G) (hp : vg_Hp G) : vg_Ct l G vg_sh r_X5_hold := by
  refine vg_meth hp vg_sh_ok r_X5_hold k_X5_hold rfl (fun h => by cases h) o_X5_hold [r_X10_putTo, r_J9_abs_0f7a4, r_J9_max_7cf53] false (by decide +kernel) (by decide +kernel) ⟨_, _, rfl, rfl⟩ (List.forall_mem_cons.mpr ⟨⟨c_X10_putTo l G hp, Nat.le_of_ble_eq_true rfl, Nat.le_of_ble_eq_true rfl⟩, List.forall_mem_cons.mpr ⟨⟨c_J9_abs_0f7a4 l G hp, Nat.le_of_ble_eq_true rfl, Nat.le_of_ble_eq_true rfl⟩, List.forall_mem_cons.mpr ⟨⟨c_J9_max_7cf53 l G hp, Nat.le_of_ble_eq_true rfl, Nat.le_of_ble_eq_true rfl⟩, fun _ h => absurd h List.not_mem_nil⟩⟩⟩) (fun h => by cases h) 600 ?_
  intro as s0 hpre
  obtain ⟨r, a1, rfl, hr, i0⟩ := hpre
  simp only [List.mem_cons, List.not_mem_nil, or_false] at hr
  rcases hr with rfl | rfl
  ·
    have z1 : (Int32.ofInt 1).toInt = 1 := by decide
    refine ⟨Nat.le_of_ble_eq_true rfl, [], ?_, fun _ h => absurd h List.not_mem_nil⟩
    ·
      intro v1 e2
      have g3 : s0.1 4 4 = v1 := by rw [e2]
      have b4 : (1 : Int) ≤ v1.toInt ∧ v1.toInt ≤ 60000 := by rw [e2]; exact Iv_4_4 i0
      refine And.intro (Nat.le_of_ble_eq_true rfl) (And.intro ⟨a1, v1, rfl, trivial⟩ ?_)
      intro v5 s7 h6
      have h6 : s7 = s0 ∧ (True) := h6
      have q10 := h6.1.symm
      subst q10
      refine And.intro (fun c11 => ?_) (fun c11 => ?_)
      · have c11 : v5.toInt = a1.toInt := c11
        intro v12 e13
        have g14 : s0.1 3 8 = v12 := by rw [e13]
        refine And.intro (Nat.le_of_ble_eq_true rfl) (And.intro ⟨v5, rfl, trivial⟩ ?_)
        intro v15 s17 h16
        have h16 : s17 = s0 ∧ (True) := h16
        have q20 := h16.1.symm
        subst q20
        refine And.intro (Nat.le_of_ble_eq_true rfl) (And.intro ⟨v12, v15, rfl, trivial⟩ ?_)
        intro v21 s23 h22
        have h22 : s23 = s0 ∧ (v12.toInt ≤ v21.toInt ∧ v15.toInt ≤ v21.toInt ∧ (v21.toInt = v12.toInt ∨ v21.toInt = v15.toInt)) := h22
        have q26 := h22.1.symm
        subst q26
        have q27 := h22.2
        intro s28 e29
        have i30 : Iv s28 := Iv.u1 i0 e29 rfl
        have k31 : Kp s0 s28 := Kx.u1 Kx.rf e29 rfl
        show Iv s28 ∧ Kp s0 s28 ∧ (True)
        exact ⟨i30, k31, (trivial)⟩
      · have c11 : ¬ (v5.toInt = a1.toInt) := c11
        refine And.intro (by first | exact Or.inl rfl | exact Or.inr rfl | exact vg_01 (by omega) (by omega)) ?_
        intro s32 e33
        have i34 : Iv s32 := Iv.u1 i0 e33 rfl
        have k35 : Kp s0 s32 := Kx.u1 Kx.rf e33 rfl
        intro v36 e37
        have g38 : s0.1 3 5 = v36 := by rw [e37, e33, vg_u1_at (a := 3) (b := 5) (k := 3) (i := 7) (by decide)]
        intro v39 e40
        intro s41 e42
        have i43 : Iv s41 := Iv.u1 i34 e42 rfl
        have k44 : Kp s0 s41 := Kx.u1 k35 e42 rfl
        intro v45 e46
        intro v47 e48
        intro v49 e50
        intro v51 e52
        intro s53 e54
        have i55 : Iv s53 := Iv.u2 i43 e54
        have k56 : Kp s0 s53 := Kx.u2 k44 e54 (vg_kq_no ⟨rfl, rfl, rfl⟩).1
        intro v57 e58
        have g59 : s0.1 3 8 = v57 := by rw [e58, e54, vg_u2_1, e42, vg_u1_at (a := 3) (b := 8) (k := 3) (i := 5) (by decide), e33, vg_u1_at (a := 3) (b := 8) (k := 3) (i := 7) (by decide)]
        refine And.intro (Nat.le_of_ble_eq_true rfl) (And.intro ⟨v5, rfl, trivial⟩ ?_)
        intro v60 s62 h61
        have h61 : s62 = s53 ∧ (True) := h61
        have q65 := h61.1.symm
        subst q65
        refine And.intro (Nat.le_of_ble_eq_true rfl) (And.intro ⟨v57, v60, rfl, trivial⟩ ?_)
        intro v66 s68 h67
        have h67 : s68 = s53 ∧ (v57.toInt ≤ v66.toInt ∧ v60.toInt ≤ v66.toInt ∧ (v66.toInt = v57.toInt ∨ v66.toInt = v60.toInt)) := h67
        have q71 := h67.1.symm
        subst q71
        have q72 := h67.2
        intro s73 e74
        have i75 : Iv s73 := Iv.u1 i55 e74 rfl
        have k76 : Kp s0 s73 := Kx.u1 k56 e74 rfl
        show Iv s73 ∧ Kp s0 s73 ∧ (True)
        exact ⟨i75, k76, (trivial)⟩
  ·
    have z1 : (Int32.ofInt 1).toInt = 1 := by decide
    refine ⟨Nat.le_of_ble_eq_true rfl, [], ?_, fun _ h => absurd h List.not_mem_nil⟩
    ·
      intro v1 e2
      have g3 : s0.1 23 4 = v1 := by rw [e2]
      have b4 : (1 : Int) ≤ v1.toInt ∧ v1.toInt ≤ 60000 := by rw [e2]; exact Iv_23_4 i0
      refine And.intro (Nat.le_of_ble_eq_true rfl) (And.intro ⟨a1, v1, rfl, trivial⟩ ?_)
      intro v5 s7 h6
      have h6 : s7 = s0 ∧ (True) := h6
      have q10 := h6.1.symm
      subst q10
      refine And.intro (fun c11 => ?_) (fun c11 => ?_)
      · have c11 : v5.toInt = a1.toInt := c11
        intro v12 e13
        have g14 : s0.1 22 8 = v12 := by rw [e13]
        refine And.intro (Nat.le_of_ble_eq_true rfl) (And.intro ⟨v5, rfl, trivial⟩ ?_)
        intro v15 s17 h16
        have h16 : s17 = s0 ∧ (True) := h16
        have q20 := h16.1.symm
        subst q20
        refine And.intro (Nat.le_of_ble_eq_true rfl) (And.intro ⟨v12, v15, rfl, trivial⟩ ?_)
        intro v21 s23 h22
        have h22 : s23 = s0 ∧ (v12.toInt ≤ v21.toInt ∧ v15.toInt ≤ v21.toInt ∧ (v21.toInt = v12.toInt ∨ v21.toInt = v15.toInt)) := h22
        have q26 := h22.1.symm
        subst q26
        have q27 := h22.2
        intro s28 e29
        have i30 : Iv s28 := Iv.u1 i0 e29 rfl
        have k31 : Kp s0 s28 := Kx.u1 Kx.rf e29 rfl
        show Iv s28 ∧ Kp s0 s28 ∧ (True)
        exact ⟨i30, k31, (trivial)⟩
      · have c11 : ¬ (v5.toInt = a1.toInt) := c11
        refine And.intro (by first | exact Or.inl rfl | exact Or.inr rfl | exact vg_01 (by omega) (by omega)) ?_
        intro s32 e33
        have i34 : Iv s32 := Iv.u1 i0 e33 rfl
        have k35 : Kp s0 s32 := Kx.u1 Kx.rf e33 rfl
        intro v36 e37
        have g38 : s0.1 22 5 = v36 := by rw [e37, e33, vg_u1_at (a := 22) (b := 5) (k := 22) (i := 7) (by decide)]
        intro v39 e40
        intro s41 e42
        have i43 : Iv s41 := Iv.u1 i34 e42 rfl
        have k44 : Kp s0 s41 := Kx.u1 k35 e42 rfl
        intro v45 e46
        intro v47 e48
        intro v49 e50
        intro v51 e52
        intro s53 e54
        have i55 : Iv s53 := Iv.u2 i43 e54
        have k56 : Kp s0 s53 := Kx.u2 k44 e54 (vg_kq_no ⟨rfl, rfl, rfl⟩).1
        intro v57 e58
        have g59 : s0.1 22 8 = v57 := by rw [e58, e54, vg_u2_1, e42, vg_u1_at (a := 22) (b := 8) (k := 22) (i := 5) (by decide), e33, vg_u1_at (a := 22) (b := 8) (k := 22) (i := 7) (by decide)]
        refine And.intro (Nat.le_of_ble_eq_true rfl) (And.intro ⟨v5, rfl, trivial⟩ ?_)
        intro v60 s62 h61
        have h61 : s62 = s53 ∧ (True) := h61
        have q65 := h61.1.symm
        subst q65
        refine And.intro (Nat.le_of_ble_eq_true rfl) (And.intro ⟨v57, v60, rfl, trivial⟩ ?_)
        intro v66 s68 h67
        have h67 : s68 = s53 ∧ (v57.toInt ≤ v66.toInt ∧ v60.toInt ≤ v66.toInt ∧ (v66.toInt = v57.toInt ∨ v66.toInt = v60.toInt)) := h67
        have q71 := h67.1.symm
        subst q71
        have q72 := h67.2
        intro s73 e74
        have i75 : Iv s73 := Iv.u1 i55 e74 rfl
        have k76 : Kp s0 s73 := Kx.u1 k56 e74 rfl
        show Iv s73 ∧ Kp s0 s73 ∧ (True)
        exact ⟨i75, k76, (trivial)⟩
def o_X5_outOfSums : List vg_I := [(0, .iload_n 1, 1, 0, 0, 0, 0), (1, .istore_n 3, 1, 0, 0, 0, 0), (2, .iconst 0, 1, 0, 0, 0, 0), (3, .istore 4, 2, 0, 0, 0, 0), (5, .iload 4, 2, 0, 0, 0, 0), (7, .aload_n 0, 1, 0, 0, 0, 0), (8, .getfield 12, 3, 178, 5, 0, 0), (11, .getfield 134, 3, 144, 6, 1, 0), (14, .if_icmp .ge 42, 3, 0, 0, 0, 0), (17, .aload_n 0, 1, 0, 0, 0, 0), (18, .getfield 16, 3, 180, 5, 1, 0), (21, .iload 4, 2, 0, 0, 0, 0), (23, .aload_n 0, 1, 0, 0, 0, 0), (24, .aload_n 0, 1, 0, 0, 0, 0), (25, .getfield 16, 3, 180, 5, 1, 0), (28, .iload 4, 2, 0, 0, 0, 0), (30, .iaload, 1, 0, 0, 0, 0), (31, .iload_n 3, 1, 0, 0, 0, 0), (32, .iadd, 1, 0, 0, 0, 0), (33, .aload_n 0, 1, 0, 0, 0, 0), (34, .getfield 29, 3, 183, 5, 3, 0), (37, .isub, 1, 0, 0, 0, 0), (38, .invokevirtual 131, 3, 0, 5, 1, 661), (41, .iastore, 1, 0, 0, 0, 0), (42, .aload_n 0, 1, 0, 0, 0, 0), (43, .getfield 16, 3, 180, 5, 1, 0), (46, .iload 4, 2, 0, 0, 0, 0), (48, .iaload, 1, 0, 0, 0, 0), (49, .istore_n 3, 1, 0, 0, 0, 0), (50, .iinc 4 1, 3, 0, 0, 0, 0), (53, .goto (-48), 3, 0, 0, 0, 0), (56, .aload_n 0, 1, 0, 0, 0, 0), (57, .getfield 12, 3, 178, 5, 0, 0), (60, .iload_n 3, 1, 0, 0, 0, 0), (61, .iload_n 2, 1, 0, 0, 0, 0), (62, .iadd, 1, 0, 0, 0, 0), (63, .invokevirtual 128, 3, 1, 6, 1, 672), (66, .ireturn, 1, 0, 0, 0, 0)]
set_option maxRecDepth 100000 in
set_option maxHeartbeats 4000000 in
theorem c_X5_outOfSums (l : Launch) (G : vg_G) (hp : vg_Hp G) : vg_Ct l G vg_sh r_X5_outOfSums := by
  refine vg_meth hp vg_sh_ok r_X5_outOfSums k_X5_outOfSums rfl (fun h => by cases h) o_X5_outOfSums [r_X5_hold, r_X6_nearest] false (by decide +kernel) (by decide +kernel) ⟨_, _, rfl, rfl⟩ (List.forall_mem_cons.mpr ⟨⟨c_X5_hold l G hp, Nat.le_of_ble_eq_true rfl, Nat.le_of_ble_eq_true rfl⟩, List.forall_mem_cons.mpr ⟨⟨c_X6_nearest l G hp, Nat.le_of_ble_eq_true rfl, Nat.le_of_ble_eq_true rfl⟩, fun _ h => absurd h List.not_mem_nil⟩⟩) (fun h => by cases h) 600 ?_
  intro as s0 hpre
  obtain ⟨r, a1, a2, rfl, hr, i0⟩ := hpre
  simp only [List.mem_cons, List.not_mem_nil, or_false] at hr
  rcases hr with rfl | rfl
  ·
    have z0 : (Int32.ofInt 0).toInt = 0 := by decide
    have z1 : (Int32.ofInt 1).toInt = 1 := by decide
    refine ⟨Nat.le_of_ble_eq_true rfl, [(5, [true, false, true, true, true], (fun L t => ∃ (x3 : Int32) (x4 : Int32), L = [some (.ref 3), none, some (.int a2), some (.int x3), some (.int x4)] ∧ (0 : Int) ≤ x4.toInt ∧ x4.toInt ≤ (4 : Int) ∧ Iv t ∧ Kp s0 t), (fun L _ => (0 + (4 - (vg_li L 4).toInt) * 1000000000000).toNat))], ?_, List.forall_mem_cons.mpr ⟨?_, fun _ h => absurd h List.not_mem_nil⟩⟩
    ·
      exact ⟨rfl, ⟨a1, (Int32.ofInt 0), rfl, (by omega), (by omega), i0, Kx.rf⟩, trivial⟩
    ·
      intro L s5 hL
      obtain ⟨w1, w2, rfl, b3, b4, i6, k7⟩ := hL
      intro v8 e9
      have g10 : s5.1 4 1 = v8 := by rw [e9]
      have b11 : (1 : Int) ≤ v8.toInt ∧ v8.toInt ≤ 4 := by rw [e9]; exact Iv_4_1 i6
      refine And.intro (fun c12 => ?_) (fun c12 => ?_)
      · have c12 : v8.toInt ≤ w2.toInt := c12
        intro v13 e14
        refine And.intro (Nat.le_of_ble_eq_true rfl) (And.intro ⟨4, v13, rfl, by decide, i6⟩ ?_)
        intro v15 s17 h16
        have h16 : s17 = s5 ∧ (True) := h16
        have q20 := h16.1.symm
        subst q20
        show Iv s5 ∧ Kp s0 s5 ∧ (True)
        exact ⟨i6, k7, (trivial)⟩
      · have c12 : ¬ (v8.toInt ≤ w2.toInt) := c12
        refine And.intro ⟨by omega, by omega⟩ ?_
        intro v21 e22
        intro v23 e24
        intro v25 e26
        have g27 : s5.1 3 3 = v25 := by rw [e26]
        intro v28 e29
        refine And.intro (Nat.le_of_ble_eq_true rfl) (And.intro ⟨3, v28, rfl, by decide, i6⟩ ?_)
        intro v30 s32 h31
        have h31 : Iv s32 ∧ Kp s5 s32 ∧ (True) := h31
        have i33 := h31.1
        have k34 : Kp s0 s32 := Kx.tr k7 (h31.2.1)
        refine And.intro ⟨by omega, by omega⟩ ?_
        intro s35 e36
        have i37 : Iv s35 := Iv.a1 i33 e36 rfl
        have k38 : Kp s0 s35 := Kx.u1 k34 e36 rfl
        refine And.intro ⟨by omega, by omega⟩ ?_
        intro v39 e40
        intro v41 e42
        have b43 := vg_add e42 (by omega) (by omega)
        exact ⟨rfl, ⟨v39, v41, rfl, (by omega), (by omega), i37, k38⟩, (by show (0 + (4 - v41.toInt) * 1000000000000).toNat < (0 + (4 - w2.toInt) * 1000000000000).toNat; omega)⟩
  ·
    have z0 : (Int32.ofInt 0).toInt = 0 := by decide
    have z1 : (Int32.ofInt 1).toInt = 1 := by decide
    refine ⟨Nat.le_of_ble_eq_true rfl, [(5, [true, false, true, true, true], (fun L t => ∃ (x3 : Int32) (x4 : Int32), L = [some (.ref 22), none, some (.int a2), some (.int x3), some (.int x4)] ∧ (0 : Int) ≤ x4.toInt ∧ x4.toInt ≤ (4 : Int) ∧ Iv t ∧ Kp s0 t), (fun L _ => (0 + (4 - (vg_li L 4).toInt) * 1000000000000).toNat))], ?_, List.forall_mem_cons.mpr ⟨?_, fun _ h => absurd h List.not_mem_nil⟩⟩
    ·
      exact ⟨rfl, ⟨a1, (Int32.ofInt 0), rfl, (by omega), (by omega), i0, Kx.rf⟩, trivial⟩
    ·
      intro L s5 hL
      obtain ⟨w1, w2, rfl, b3, b4, i6, k7⟩ := hL
      intro v8 e9
      have g10 : s5.1 23 1 = v8 := by rw [e9]
      have b11 : (1 : Int) ≤ v8.toInt ∧ v8.toInt ≤ 4 := by rw [e9]; exact Iv_23_1 i6
      refine And.intro (fun c12 => ?_) (fun c12 => ?_)
      · have c12 : v8.toInt ≤ w2.toInt := c12
        intro v13 e14
        refine And.intro (Nat.le_of_ble_eq_true rfl) (And.intro ⟨23, v13, rfl, by decide, i6⟩ ?_)
        intro v15 s17 h16
        have h16 : s17 = s5 ∧ (True) := h16
        have q20 := h16.1.symm
        subst q20
        show Iv s5 ∧ Kp s0 s5 ∧ (True)
        exact ⟨i6, k7, (trivial)⟩
      · have c12 : ¬ (v8.toInt ≤ w2.toInt) := c12
        refine And.intro ⟨by omega, by omega⟩ ?_
        intro v21 e22
        intro v23 e24
        intro v25 e26
        have g27 : s5.1 22 3 = v25 := by rw [e26]
        intro v28 e29
        refine And.intro (Nat.le_of_ble_eq_true rfl) (And.intro ⟨22, v28, rfl, by decide, i6⟩ ?_)
        intro v30 s32 h31
        have h31 : Iv s32 ∧ Kp s5 s32 ∧ (True) := h31
        have i33 := h31.1
        have k34 : Kp s0 s32 := Kx.tr k7 (h31.2.1)
        refine And.intro ⟨by omega, by omega⟩ ?_
        intro s35 e36
        have i37 : Iv s35 := Iv.a1 i33 e36 rfl
        have k38 : Kp s0 s35 := Kx.u1 k34 e36 rfl
        refine And.intro ⟨by omega, by omega⟩ ?_
        intro v39 e40
        intro v41 e42
        have b43 := vg_add e42 (by omega) (by omega)
        exact ⟨rfl, ⟨v39, v41, rfl, (by omega), (by omega), i37, k38⟩, (by show (0 + (4 - v41.toInt) * 1000000000000).toNat < (0 + (4 - w2.toInt) * 1000000000000).toNat; omega)⟩
def o_X5_differenceOf : List vg_I := [(0, .iload_n 1, 1, 0, 0, 0, 0), (1, .tableswitch 144 1 3 #[27, 45, 84], 27, 0, 0, 0, 0), (28, .iload_n 2, 1, 0, 0, 0, 0), (29, .aload_n 0, 1, 0, 0, 0, 0), (30, .getfield 20, 3, 182, 5, 2, 0), (33, .iconst 0, 1, 0, 0, 0, 0), (34, .iaload, 1, 0, 0, 0, 0), (35, .isub, 1, 0, 0, 0, 0), (36, .istore_n 3, 1, 0, 0, 0, 0), (37, .aload_n 0, 1, 0, 0, 0, 0), (38, .getfield 20, 3, 182, 5, 2, 0), (41, .iconst 0, 1, 0, 0, 0, 0), (42, .iload_n 2, 1, 0, 0, 0, 0), (43, .iastore, 1, 0, 0, 0, 0), (44, .iload_n 3, 1, 0, 0, 0, 0), (45, .ireturn, 1, 0, 0, 0, 0), (46, .iload_n 2, 1, 0, 0, 0, 0), (47, .iconst 2, 1, 0, 0, 0, 0), (48, .aload_n 0, 1, 0, 0, 0, 0), (49, .getfield 20, 3, 182, 5, 2, 0), (52, .iconst 1, 1, 0, 0, 0, 0), (53, .iaload, 1, 0, 0, 0, 0), (54, .imul, 1, 0, 0, 0, 0), (55, .isub, 1, 0, 0, 0, 0), (56, .aload_n 0, 1, 0, 0, 0, 0), (57, .getfield 20, 3, 182, 5, 2, 0), (60, .iconst 2, 1, 0, 0, 0, 0), (61, .iaload, 1, 0, 0, 0, 0), (62, .iadd, 1, 0, 0, 0, 0), (63, .istore_n 3, 1, 0, 0, 0, 0), (64, .aload_n 0, 1, 0, 0, 0, 0), (65, .getfield 20, 3, 182, 5, 2, 0), (68, .iconst 2, 1, 0, 0, 0, 0), (69, .aload_n 0, 1, 0, 0, 0, 0), (70, .getfield 20, 3, 182, 5, 2, 0), (73, .iconst 1, 1, 0, 0, 0, 0), (74, .iaload, 1, 0, 0, 0, 0), (75, .iastore, 1, 0, 0, 0, 0), (76, .aload_n 0, 1, 0, 0, 0, 0), (77, .getfield 20, 3, 182, 5, 2, 0), (80, .iconst 1, 1, 0, 0, 0, 0), (81, .iload_n 2, 1, 0, 0, 0, 0), (82, .iastore, 1, 0, 0, 0, 0), (83, .iload_n 3, 1, 0, 0, 0, 0), (84, .ireturn, 1, 0, 0, 0, 0), (85, .iload_n 2, 1, 0, 0, 0, 0), (86, .iconst 3, 1, 0, 0, 0, 0), (87, .aload_n 0, 1, 0, 0, 0, 0), (88, .getfield 20, 3, 182, 5, 2, 0), (91, .iconst 3, 1, 0, 0, 0, 0), (92, .iaload, 1, 0, 0, 0, 0), (93, .imul, 1, 0, 0, 0, 0), (94, .isub, 1, 0, 0, 0, 0), (95, .iconst 3, 1, 0, 0, 0, 0), (96, .aload_n 0, 1, 0, 0, 0, 0), (97, .getfield 20, 3, 182, 5, 2, 0), (100, .iconst 4, 1, 0, 0, 0, 0), (101, .iaload, 1, 0, 0, 0, 0), (102, .imul, 1, 0, 0, 0, 0), (103, .iadd, 1, 0, 0, 0, 0), (104, .aload_n 0, 1, 0, 0, 0, 0), (105, .getfield 20, 3, 182, 5, 2, 0), (108, .iconst 5, 1, 0, 0, 0, 0), (109, .iaload, 1, 0, 0, 0, 0), (110, .isub, 1, 0, 0, 0, 0), (111, .istore_n 3, 1, 0, 0, 0, 0), (112, .aload_n 0, 1, 0, 0, 0, 0), (113, .getfield 20, 3, 182, 5, 2, 0), (116, .iconst 5, 1, 0, 0, 0, 0), (117, .aload_n 0, 1, 0, 0, 0, 0), (118, .getfield 20, 3, 182, 5, 2, 0), (121, .iconst 4, 1, 0, 0, 0, 0), (122, .iaload, 1, 0, 0, 0, 0), (123, .iastore, 1, 0, 0, 0, 0), (124, .aload_n 0, 1, 0, 0, 0, 0), (125, .getfield 20, 3, 182, 5, 2, 0), (128, .iconst 4, 1, 0, 0, 0, 0), (129, .aload_n 0, 1, 0, 0, 0, 0), (130, .getfield 20, 3, 182, 5, 2, 0), (133, .iconst 3, 1, 0, 0, 0, 0), (134, .iaload, 1, 0, 0, 0, 0), (135, .iastore, 1, 0, 0, 0, 0), (136, .aload_n 0, 1, 0, 0, 0, 0), (137, .getfield 20, 3, 182, 5, 2, 0), (140, .iconst 3, 1, 0, 0, 0, 0), (141, .iload_n 2, 1, 0, 0, 0, 0), (142, .iastore, 1, 0, 0, 0, 0), (143, .iload_n 3, 1, 0, 0, 0, 0), (144, .ireturn, 1, 0, 0, 0, 0), (145, .iload_n 2, 1, 0, 0, 0, 0), (146, .ireturn, 1, 0, 0, 0, 0)]
set_option maxRecDepth 100000 in
set_option maxHeartbeats 4000000 in
theorem c_X5_differenceOf (l : Launch) (G : vg_G) (hp : vg_Hp G) : vg_Ct l G vg_sh r_X5_differenceOf := by
  refine vg_meth hp vg_sh_ok r_X5_differenceOf k_X5_differenceOf rfl (fun h => by cases h) o_X5_differenceOf [] false (by decide +kernel) (by decide +kernel) ⟨_, _, rfl, rfl⟩ (fun _ h => absurd h List.not_mem_nil) (fun h => by cases h) 600 ?_
  intro as s0 hpre
  obtain ⟨r, a1, a2, rfl, hr, i0⟩ := hpre
  simp only [List.mem_cons, List.not_mem_nil, or_false] at hr
  rcases hr with rfl | rfl
  ·
    have z0 : (Int32.ofInt 0).toInt = 0 := by decide
    have z1 : (Int32.ofInt 1).toInt = 1 := by decide
    have z2 : (Int32.ofInt 2).toInt = 2 := by decide
    have z3 : (Int32.ofInt 3).toInt = 3 := by decide
    have z4 : (Int32.ofInt 4).toInt = 4 := by decide
    have z5 : (Int32.ofInt 5).toInt = 5 := by decide
    refine ⟨Nat.le_of_ble_eq_true rfl, [], ?_, fun _ h => absurd h List.not_mem_nil⟩
    ·
      refine And.intro (fun c1 => ?_) ?_
      · have c1 : a1.toInt < (1) ∨ (3) < a1.toInt := c1
        show Iv s0 ∧ Kp s0 s0 ∧ (True)
        exact ⟨i0, Kx.rf, (trivial)⟩
      refine And.intro (fun c2 => ?_) ?_
      · have c2 : a1.toInt = (1) := c2
        refine And.intro ⟨by omega, by omega⟩ ?_
        intro v3 e4
        intro v5 e6
        refine And.intro ⟨by omega, by omega⟩ ?_
        intro s7 e8
        have i9 : Iv s7 := Iv.a1 i0 e8 rfl
        have k10 : Kp s0 s7 := Kx.u1 Kx.rf e8 rfl
        show Iv s7 ∧ Kp s0 s7 ∧ (True)
        exact ⟨i9, k10, (trivial)⟩
      refine And.intro (fun c11 => ?_) ?_
      · have c11 : a1.toInt = (2) := c11
        refine And.intro ⟨by omega, by omega⟩ ?_
        intro v12 e13
        intro v14 e15
        intro v16 e17
        refine And.intro ⟨by omega, by omega⟩ ?_
        intro v18 e19
        intro v20 e21
        refine And.intro ⟨by omega, by omega⟩ ?_
        intro v22 e23
        have w24 : v12 = v22 := by rw [e23, e13]
        subst w24
        refine And.intro ⟨by omega, by omega⟩ ?_
        intro s25 e26
        have i27 : Iv s25 := Iv.a1 i0 e26 rfl
        have k28 : Kp s0 s25 := Kx.u1 Kx.rf e26 rfl
        refine And.intro ⟨by omega, by omega⟩ ?_
        intro s29 e30
        have i31 : Iv s29 := Iv.a1 i27 e30 rfl
        have k32 : Kp s0 s29 := Kx.u1 k28 e30 rfl
        show Iv s29 ∧ Kp s0 s29 ∧ (True)
        exact ⟨i31, k32, (trivial)⟩
      refine And.intro (fun c33 => ?_) ?_
      · have c33 : a1.toInt = (3) := c33
        refine And.intro ⟨by omega, by omega⟩ ?_
        intro v34 e35
        intro v36 e37
        intro v38 e39
        refine And.intro ⟨by omega, by omega⟩ ?_
        intro v40 e41
        intro v42 e43
        intro v44 e45
        refine And.intro ⟨by omega, by omega⟩ ?_
        intro v46 e47
        intro v48 e49
        refine And.intro ⟨by omega, by omega⟩ ?_
        intro v50 e51
        have w52 : v40 = v50 := by rw [e51, e41]
        subst w52
        refine And.intro ⟨by omega, by omega⟩ ?_
        intro s53 e54
        have i55 : Iv s53 := Iv.a1 i0 e54 rfl
        have k56 : Kp s0 s53 := Kx.u1 Kx.rf e54 rfl
        refine And.intro ⟨by omega, by omega⟩ ?_
        intro v57 e58
        refine And.intro ⟨by omega, by omega⟩ ?_
        intro s59 e60
        have i61 : Iv s59 := Iv.a1 i55 e60 rfl
        have k62 : Kp s0 s59 := Kx.u1 k56 e60 rfl
        refine And.intro ⟨by omega, by omega⟩ ?_
        intro s63 e64
        have i65 : Iv s63 := Iv.a1 i61 e64 rfl
        have k66 : Kp s0 s63 := Kx.u1 k62 e64 rfl
        show Iv s63 ∧ Kp s0 s63 ∧ (True)
        exact ⟨i65, k66, (trivial)⟩
      exact trivial
  ·
    have z0 : (Int32.ofInt 0).toInt = 0 := by decide
    have z1 : (Int32.ofInt 1).toInt = 1 := by decide
    have z2 : (Int32.ofInt 2).toInt = 2 := by decide
    have z3 : (Int32.ofInt 3).toInt = 3 := by decide
    have z4 : (Int32.ofInt 4).toInt = 4 := by decide
    have z5 : (Int32.ofInt 5).toInt = 5 := by decide
    refine ⟨Nat.le_of_ble_eq_true rfl, [], ?_, fun _ h => absurd h List.not_mem_nil⟩
    ·
      refine And.intro (fun c1 => ?_) ?_
      · have c1 : a1.toInt < (1) ∨ (3) < a1.toInt := c1
        show Iv s0 ∧ Kp s0 s0 ∧ (True)
        exact ⟨i0, Kx.rf, (trivial)⟩
      refine And.intro (fun c2 => ?_) ?_
      · have c2 : a1.toInt = (1) := c2
        refine And.intro ⟨by omega, by omega⟩ ?_
        intro v3 e4
        intro v5 e6
        refine And.intro ⟨by omega, by omega⟩ ?_
        intro s7 e8
        have i9 : Iv s7 := Iv.a1 i0 e8 rfl
        have k10 : Kp s0 s7 := Kx.u1 Kx.rf e8 rfl
        show Iv s7 ∧ Kp s0 s7 ∧ (True)
        exact ⟨i9, k10, (trivial)⟩
      refine And.intro (fun c11 => ?_) ?_
      · have c11 : a1.toInt = (2) := c11
        refine And.intro ⟨by omega, by omega⟩ ?_
        intro v12 e13
        intro v14 e15
        intro v16 e17
        refine And.intro ⟨by omega, by omega⟩ ?_
        intro v18 e19
        intro v20 e21
        refine And.intro ⟨by omega, by omega⟩ ?_
        intro v22 e23
        have w24 : v12 = v22 := by rw [e23, e13]
        subst w24
        refine And.intro ⟨by omega, by omega⟩ ?_
        intro s25 e26
        have i27 : Iv s25 := Iv.a1 i0 e26 rfl
        have k28 : Kp s0 s25 := Kx.u1 Kx.rf e26 rfl
        refine And.intro ⟨by omega, by omega⟩ ?_
        intro s29 e30
        have i31 : Iv s29 := Iv.a1 i27 e30 rfl
        have k32 : Kp s0 s29 := Kx.u1 k28 e30 rfl
        show Iv s29 ∧ Kp s0 s29 ∧ (True)
        exact ⟨i31, k32, (trivial)⟩
      refine And.intro (fun c33 => ?_) ?_
      · have c33 : a1.toInt = (3) := c33
        refine And.intro ⟨by omega, by omega⟩ ?_
        intro v34 e35
        intro v36 e37
        intro v38 e39
        refine And.intro ⟨by omega, by omega⟩ ?_
        intro v40 e41
        intro v42 e43
        intro v44 e45
        refine And.intro ⟨by omega, by omega⟩ ?_
        intro v46 e47
        intro v48 e49
        refine And.intro ⟨by omega, by omega⟩ ?_
        intro v50 e51
        have w52 : v40 = v50 := by rw [e51, e41]
        subst w52
        refine And.intro ⟨by omega, by omega⟩ ?_
        intro s53 e54
        have i55 : Iv s53 := Iv.a1 i0 e54 rfl
        have k56 : Kp s0 s53 := Kx.u1 Kx.rf e54 rfl
        refine And.intro ⟨by omega, by omega⟩ ?_
        intro v57 e58
        refine And.intro ⟨by omega, by omega⟩ ?_
        intro s59 e60
        have i61 : Iv s59 := Iv.a1 i55 e60 rfl
        have k62 : Kp s0 s59 := Kx.u1 k56 e60 rfl
        refine And.intro ⟨by omega, by omega⟩ ?_
        intro s63 e64
        have i65 : Iv s63 := Iv.a1 i61 e64 rfl
        have k66 : Kp s0 s63 := Kx.u1 k62 e64 rfl
        show Iv s63 ∧ Kp s0 s63 ∧ (True)
        exact ⟨i65, k66, (trivial)⟩
      exact trivial
def o_X5_outOfCascade : List vg_I := [(0, .iload_n 1, 1, 0, 0, 0, 0), (1, .istore_n 3, 1, 0, 0, 0, 0), (2, .aload_n 0, 1, 0, 0, 0, 0), (3, .getfield 12, 3, 178, 5, 0, 0), (6, .invokevirtual 137, 3, 0, 6, 0, 685), (9, .istore 4, 2, 0, 0, 0, 0), (11, .iconst 0, 1, 0, 0, 0, 0), (12, .istore 5, 2, 0, 0, 0, 0), (14, .iload 5, 2, 0, 0, 0, 0), (16, .aload_n 0, 1, 0, 0, 0, 0), (17, .getfield 12, 3, 178, 5, 0, 0), (20, .getfield 134, 3, 144, 6, 1, 0), (23, .if_icmp .ge 87, 3, 0, 0, 0, 0), (26, .iload_n 3, 1, 0, 0, 0, 0), (27, .aload_n 0, 1, 0, 0, 0, 0), (28, .getfield 16, 3, 180, 5, 1, 0), (31, .iload 5, 2, 0, 0, 0, 0), (33, .iaload, 1, 0, 0, 0, 0), (34, .iadd, 1, 0, 0, 0, 0), (35, .istore 6, 2, 0, 0, 0, 0), (37, .aload_n 0, 1, 0, 0, 0, 0), (38, .getfield 12, 3, 178, 5, 0, 0), (41, .iload 5, 2, 0, 0, 0, 0), (43, .ifCond .ne 10, 3, 0, 0, 0, 0), (46, .iload 6, 2, 0, 0, 0, 0), (48, .iload_n 2, 1, 0, 0, 0, 0), (49, .iadd, 1, 0, 0, 0, 0), (50, .goto 5, 3, 0, 0, 0, 0), (53, .iload 6, 2, 0, 0, 0, 0), (55, .invokevirtual 128, 3, 1, 6, 1, 672), (58, .istore 7, 2, 0, 0, 0, 0), (60, .aload_n 0, 1, 0, 0, 0, 0), (61, .getfield 16, 3, 180, 5, 1, 0), (64, .iload 5, 2, 0, 0, 0, 0), (66, .aload_n 0, 1, 0, 0, 0, 0), (67, .iload 6, 2, 0, 0, 0, 0), (69, .aload_n 0, 1, 0, 0, 0, 0), (70, .getfield 12, 3, 178, 5, 0, 0), (73, .iload 7, 2, 0, 0, 0, 0), (75, .invokevirtual 140, 3, 2, 6, 1, 689), (78, .isub, 1, 0, 0, 0, 0), (79, .invokevirtual 131, 3, 3, 5, 1, 661), (82, .iastore, 1, 0, 0, 0, 0), (83, .aload_n 0, 1, 0, 0, 0, 0), (84, .getfield 16, 3, 180, 5, 1, 0), (87, .iload 5, 2, 0, 0, 0, 0), (89, .iaload, 1, 0, 0, 0, 0), (90, .istore_n 3, 1, 0, 0, 0, 0), (91, .iload 4, 2, 0, 0, 0, 0), (93, .aload_n 0, 1, 0, 0, 0, 0), (94, .iload 5, 2, 0, 0, 0, 0), (96, .iload 7, 2, 0, 0, 0, 0), (98, .invokevirtual 143, 3, 4, 5, 2, 693), (101, .iadd, 1, 0, 0, 0, 0), (102, .istore 4, 2, 0, 0, 0, 0), (104, .iinc 5 1, 3, 0, 0, 0, 0), (107, .goto (-93), 3, 0, 0, 0, 0), (110, .iload 4, 2, 0, 0, 0, 0), (112, .ireturn, 1, 0, 0, 0, 0)]
set_option maxRecDepth 100000 in
set_option maxHeartbeats 4000000 in
theorem c_X5_outOfCascade (l : Launch) (G : vg_G) (hp : vg_Hp G) : vg_Ct l G vg_sh r_X5_outOfCascade := by
  refine vg_meth hp vg_sh_ok r_X5_outOfCascade k_X5_outOfCascade rfl (fun h => by cases h) o_X5_outOfCascade [r_X6_besides, r_X6_nearest, r_X6_valueOfSmall, r_X5_hold, r_X5_differenceOf] false (by decide +kernel) (by decide +kernel) ⟨_, _, rfl, rfl⟩ (List.forall_mem_cons.mpr ⟨⟨c_X6_besides l G hp, Nat.le_of_ble_eq_true rfl, Nat.le_of_ble_eq_true rfl⟩, List.forall_mem_cons.mpr ⟨⟨c_X6_nearest l G hp, Nat.le_of_ble_eq_true rfl, Nat.le_of_ble_eq_true rfl⟩, List.forall_mem_cons.mpr ⟨⟨c_X6_valueOfSmall l G hp, Nat.le_of_ble_eq_true rfl, Nat.le_of_ble_eq_true rfl⟩, List.forall_mem_cons.mpr ⟨⟨c_X5_hold l G hp, Nat.le_of_ble_eq_true rfl, Nat.le_of_ble_eq_true rfl⟩, List.forall_mem_cons.mpr ⟨⟨c_X5_differenceOf l G hp, Nat.le_of_ble_eq_true rfl, Nat.le_of_ble_eq_true rfl⟩, fun _ h => absurd h List.not_mem_nil⟩⟩⟩⟩⟩) (fun h => by cases h) 600 ?_
  intro as s0 hpre
  obtain ⟨r, a1, a2, rfl, hr, i0⟩ := hpre
  simp only [List.mem_cons, List.not_mem_nil, or_false] at hr
  rcases hr with rfl | rfl
  ·
    have z0 : (Int32.ofInt 0).toInt = 0 := by decide
    have z1 : (Int32.ofInt 1).toInt = 1 := by decide
    refine ⟨Nat.le_of_ble_eq_true rfl, [(14, [true, false, true, true, true, true, false, false], (fun L t => ∃ (x3 : Int32) (x4 : Int32) (x5 : Int32), L = [some (.ref 3), none, some (.int a2), some (.int x3), some (.int x4), some (.int x5), none, none] ∧ (0 : Int) ≤ x5.toInt ∧ x5.toInt ≤ (4 : Int) ∧ Iv t ∧ Kp s0 t), (fun L _ => (0 + (4 - (vg_li L 5).toInt) * 1000000000000).toNat))], ?_, List.forall_mem_cons.mpr ⟨?_, fun _ h => absurd h List.not_mem_nil⟩⟩
    ·
      refine And.intro (Nat.le_of_ble_eq_true rfl) (And.intro ⟨4, rfl, by decide, i0⟩ ?_)
      intro v1 s3 h2
      have h2 : s3 = s0 ∧ (True) := h2
      have q6 := h2.1.symm
      subst q6
      exact ⟨rfl, ⟨a1, v1, (Int32.ofInt 0), rfl, (by omega), (by omega), i0, Kx.rf⟩, trivial⟩
    ·
      intro L s12 hL
      obtain ⟨w7, w8, w9, rfl, b10, b11, i13, k14⟩ := hL
      intro v15 e16
      have g17 : s12.1 4 1 = v15 := by rw [e16]
      have b18 : (1 : Int) ≤ v15.toInt ∧ v15.toInt ≤ 4 := by rw [e16]; exact Iv_4_1 i13
      refine And.intro (fun c19 => ?_) (fun c19 => ?_)
      · have c19 : v15.toInt ≤ w9.toInt := c19
        show Iv s12 ∧ Kp s0 s12 ∧ (True)
        exact ⟨i13, k14, (trivial)⟩
      · have c19 : ¬ (v15.toInt ≤ w9.toInt) := c19
        refine And.intro ⟨by omega, by omega⟩ ?_
        intro v20 e21
        intro v22 e23
        refine And.intro (fun c24 => ?_) (fun c24 => ?_)
        · have c24 : ¬ w9.toInt = 0 := c24
          refine And.intro (Nat.le_of_ble_eq_true rfl) (And.intro ⟨4, v22, rfl, by decide, i13⟩ ?_)
          intro v25 s27 h26
          have h26 : s27 = s12 ∧ (True) := h26
          have q30 := h26.1.symm
          subst q30
          refine And.intro (Nat.le_of_ble_eq_true rfl) (And.intro ⟨4, v25, rfl, by decide, i13⟩ ?_)
          intro v31 s33 h32
          have h32 : s33 = s12 ∧ (True) := h32
          have q36 := h32.1.symm
          subst q36
          intro v37 e38
          refine And.intro (Nat.le_of_ble_eq_true rfl) (And.intro ⟨3, v37, rfl, by decide, i13⟩ ?_)
          intro v39 s41 h40
          have h40 : Iv s41 ∧ Kp s12 s41 ∧ (True) := h40
          have i42 := h40.1
          have k43 : Kp s0 s41 := Kx.tr k14 (h40.2.1)
          refine And.intro ⟨by omega, by omega⟩ ?_
          intro s44 e45
          have i46 : Iv s44 := Iv.a1 i42 e45 rfl
          have k47 : Kp s0 s44 := Kx.u1 k43 e45 rfl
          refine And.intro ⟨by omega, by omega⟩ ?_
          intro v48 e49
          refine And.intro (Nat.le_of_ble_eq_true rfl) (And.intro ⟨3, w9, v25, rfl, by decide, i46⟩ ?_)
          intro v50 s52 h51
          have h51 : Iv s52 ∧ Kp s44 s52 ∧ (True) := h51
          have i53 := h51.1
          have k54 : Kp s0 s52 := Kx.tr k47 (h51.2.1)
          intro v55 e56
          intro v57 e58
          have b59 := vg_add e58 (by omega) (by omega)
          exact ⟨rfl, ⟨v48, v55, v57, rfl, (by omega), (by omega), i53, k54⟩, (by show (0 + (4 - v57.toInt) * 1000000000000).toNat < (0 + (4 - w9.toInt) * 1000000000000).toNat; omega)⟩
        · have c24 : ¬ (¬ w9.toInt = 0) := c24
          intro v60 e61
          refine And.intro (Nat.le_of_ble_eq_true rfl) (And.intro ⟨4, v60, rfl, by decide, i13⟩ ?_)
          intro v62 s64 h63
          have h63 : s64 = s12 ∧ (True) := h63
          have q67 := h63.1.symm
          subst q67
          refine And.intro (Nat.le_of_ble_eq_true rfl) (And.intro ⟨4, v62, rfl, by decide, i13⟩ ?_)
          intro v68 s70 h69
          have h69 : s70 = s12 ∧ (True) := h69
          have q73 := h69.1.symm
          subst q73
          intro v74 e75
          refine And.intro (Nat.le_of_ble_eq_true rfl) (And.intro ⟨3, v74, rfl, by decide, i13⟩ ?_)
          intro v76 s78 h77
          have h77 : Iv s78 ∧ Kp s12 s78 ∧ (True) := h77
          have i79 := h77.1
          have k80 : Kp s0 s78 := Kx.tr k14 (h77.2.1)
          refine And.intro ⟨by omega, by omega⟩ ?_
          intro s81 e82
          have i83 : Iv s81 := Iv.a1 i79 e82 rfl
          have k84 : Kp s0 s81 := Kx.u1 k80 e82 rfl
          refine And.intro ⟨by omega, by omega⟩ ?_
          intro v85 e86
          refine And.intro (Nat.le_of_ble_eq_true rfl) (And.intro ⟨3, w9, v62, rfl, by decide, i83⟩ ?_)
          intro v87 s89 h88
          have h88 : Iv s89 ∧ Kp s81 s89 ∧ (True) := h88
          have i90 := h88.1
          have k91 : Kp s0 s89 := Kx.tr k84 (h88.2.1)
          intro v92 e93
          intro v94 e95
          have b96 := vg_add e95 (by omega) (by omega)
          exact ⟨rfl, ⟨v85, v92, v94, rfl, (by omega), (by omega), i90, k91⟩, (by show (0 + (4 - v94.toInt) * 1000000000000).toNat < (0 + (4 - w9.toInt) * 1000000000000).toNat; omega)⟩
  ·
    have z0 : (Int32.ofInt 0).toInt = 0 := by decide
    have z1 : (Int32.ofInt 1).toInt = 1 := by decide
    refine ⟨Nat.le_of_ble_eq_true rfl, [(14, [true, false, true, true, true, true, false, false], (fun L t => ∃ (x3 : Int32) (x4 : Int32) (x5 : Int32), L = [some (.ref 22), none, some (.int a2), some (.int x3), some (.int x4), some (.int x5), none, none] ∧ (0 : Int) ≤ x5.toInt ∧ x5.toInt ≤ (4 : Int) ∧ Iv t ∧ Kp s0 t), (fun L _ => (0 + (4 - (vg_li L 5).toInt) * 1000000000000).toNat))], ?_, List.forall_mem_cons.mpr ⟨?_, fun _ h => absurd h List.not_mem_nil⟩⟩
    ·
      refine And.intro (Nat.le_of_ble_eq_true rfl) (And.intro ⟨23, rfl, by decide, i0⟩ ?_)
      intro v1 s3 h2
      have h2 : s3 = s0 ∧ (True) := h2
      have q6 := h2.1.symm
      subst q6
      exact ⟨rfl, ⟨a1, v1, (Int32.ofInt 0), rfl, (by omega), (by omega), i0, Kx.rf⟩, trivial⟩
    ·
      intro L s12 hL
      obtain ⟨w7, w8, w9, rfl, b10, b11, i13, k14⟩ := hL
      intro v15 e16
      have g17 : s12.1 23 1 = v15 := by rw [e16]
      have b18 : (1 : Int) ≤ v15.toInt ∧ v15.toInt ≤ 4 := by rw [e16]; exact Iv_23_1 i13
      refine And.intro (fun c19 => ?_) (fun c19 => ?_)
      · have c19 : v15.toInt ≤ w9.toInt := c19
        show Iv s12 ∧ Kp s0 s12 ∧ (True)
        exact ⟨i13, k14, (trivial)⟩
      · have c19 : ¬ (v15.toInt ≤ w9.toInt) := c19
        refine And.intro ⟨by omega, by omega⟩ ?_
        intro v20 e21
        intro v22 e23
        refine And.intro (fun c24 => ?_) (fun c24 => ?_)
        · have c24 : ¬ w9.toInt = 0 := c24
          refine And.intro (Nat.le_of_ble_eq_true rfl) (And.intro ⟨23, v22, rfl, by decide, i13⟩ ?_)
          intro v25 s27 h26
          have h26 : s27 = s12 ∧ (True) := h26
          have q30 := h26.1.symm
          subst q30
          refine And.intro (Nat.le_of_ble_eq_true rfl) (And.intro ⟨23, v25, rfl, by decide, i13⟩ ?_)
          intro v31 s33 h32
          have h32 : s33 = s12 ∧ (True) := h32
          have q36 := h32.1.symm
          subst q36
          intro v37 e38
          refine And.intro (Nat.le_of_ble_eq_true rfl) (And.intro ⟨22, v37, rfl, by decide, i13⟩ ?_)
          intro v39 s41 h40
          have h40 : Iv s41 ∧ Kp s12 s41 ∧ (True) := h40
          have i42 := h40.1
          have k43 : Kp s0 s41 := Kx.tr k14 (h40.2.1)
          refine And.intro ⟨by omega, by omega⟩ ?_
          intro s44 e45
          have i46 : Iv s44 := Iv.a1 i42 e45 rfl
          have k47 : Kp s0 s44 := Kx.u1 k43 e45 rfl
          refine And.intro ⟨by omega, by omega⟩ ?_
          intro v48 e49
          refine And.intro (Nat.le_of_ble_eq_true rfl) (And.intro ⟨22, w9, v25, rfl, by decide, i46⟩ ?_)
          intro v50 s52 h51
          have h51 : Iv s52 ∧ Kp s44 s52 ∧ (True) := h51
          have i53 := h51.1
          have k54 : Kp s0 s52 := Kx.tr k47 (h51.2.1)
          intro v55 e56
          intro v57 e58
          have b59 := vg_add e58 (by omega) (by omega)
          exact ⟨rfl, ⟨v48, v55, v57, rfl, (by omega), (by omega), i53, k54⟩, (by show (0 + (4 - v57.toInt) * 1000000000000).toNat < (0 + (4 - w9.toInt) * 1000000000000).toNat; omega)⟩
        · have c24 : ¬ (¬ w9.toInt = 0) := c24
          intro v60 e61
          refine And.intro (Nat.le_of_ble_eq_true rfl) (And.intro ⟨23, v60, rfl, by decide, i13⟩ ?_)
          intro v62 s64 h63
          have h63 : s64 = s12 ∧ (True) := h63
          have q67 := h63.1.symm
          subst q67
          refine And.intro (Nat.le_of_ble_eq_true rfl) (And.intro ⟨23, v62, rfl, by decide, i13⟩ ?_)
          intro v68 s70 h69
          have h69 : s70 = s12 ∧ (True) := h69
          have q73 := h69.1.symm
          subst q73
          intro v74 e75
          refine And.intro (Nat.le_of_ble_eq_true rfl) (And.intro ⟨22, v74, rfl, by decide, i13⟩ ?_)
          intro v76 s78 h77
          have h77 : Iv s78 ∧ Kp s12 s78 ∧ (True) := h77
          have i79 := h77.1
          have k80 : Kp s0 s78 := Kx.tr k14 (h77.2.1)
          refine And.intro ⟨by omega, by omega⟩ ?_
          intro s81 e82
          have i83 : Iv s81 := Iv.a1 i79 e82 rfl
          have k84 : Kp s0 s81 := Kx.u1 k80 e82 rfl
          refine And.intro ⟨by omega, by omega⟩ ?_
          intro v85 e86
          refine And.intro (Nat.le_of_ble_eq_true rfl) (And.intro ⟨22, w9, v62, rfl, by decide, i83⟩ ?_)
          intro v87 s89 h88
          have h88 : Iv s89 ∧ Kp s81 s89 ∧ (True) := h88
          have i90 := h88.1
          have k91 : Kp s0 s89 := Kx.tr k84 (h88.2.1)
          intro v92 e93
          intro v94 e95
          have b96 := vg_add e95 (by omega) (by omega)
          exact ⟨rfl, ⟨v85, v92, v94, rfl, (by omega), (by omega), i90, k91⟩, (by show (0 + (4 - v94.toInt) * 1000000000000).toNat < (0 + (4 - w9.toInt) * 1000000000000).toNat; omega)⟩
def o_X5_shapedErrors : List vg_I := [(0, .aload_n 0, 1, 0, 0, 0, 0), (1, .getfield 12, 3, 178, 5, 0, 0), (4, .getfield 134, 3, 144, 6, 1, 0), (7, .tableswitch 73 1 3 #[25, 32, 48], 25, 0, 0, 0, 0), (32, .aload_n 0, 1, 0, 0, 0, 0), (33, .getfield 16, 3, 180, 5, 1, 0), (36, .iconst 0, 1, 0, 0, 0, 0), (37, .iaload, 1, 0, 0, 0, 0), (38, .ireturn, 1, 0, 0, 0, 0), (39, .iconst 2, 1, 0, 0, 0, 0), (40, .aload_n 0, 1, 0, 0, 0, 0), (41, .getfield 16, 3, 180, 5, 1, 0), (44, .iconst 0, 1, 0, 0, 0, 0), (45, .iaload, 1, 0, 0, 0, 0), (46, .imul, 1, 0, 0, 0, 0), (47, .aload_n 0, 1, 0, 0, 0, 0), (48, .getfield 16, 3, 180, 5, 1, 0), (51, .iconst 1, 1, 0, 0, 0, 0), (52, .iaload, 1, 0, 0, 0, 0), (53, .isub, 1, 0, 0, 0, 0), (54, .ireturn, 1, 0, 0, 0, 0), (55, .iconst 3, 1, 0, 0, 0, 0), (56, .aload_n 0, 1, 0, 0, 0, 0), (57, .getfield 16, 3, 180, 5, 1, 0), (60, .iconst 0, 1, 0, 0, 0, 0), (61, .iaload, 1, 0, 0, 0, 0), (62, .imul, 1, 0, 0, 0, 0), (63, .iconst 3, 1, 0, 0, 0, 0), (64, .aload_n 0, 1, 0, 0, 0, 0), (65, .getfield 16, 3, 180, 5, 1, 0), (68, .iconst 1, 1, 0, 0, 0, 0), (69, .iaload, 1, 0, 0, 0, 0), (70, .imul, 1, 0, 0, 0, 0), (71, .isub, 1, 0, 0, 0, 0), (72, .aload_n 0, 1, 0, 0, 0, 0), (73, .getfield 16, 3, 180, 5, 1, 0), (76, .iconst 2, 1, 0, 0, 0, 0), (77, .iaload, 1, 0, 0, 0, 0), (78, .iadd, 1, 0, 0, 0, 0), (79, .ireturn, 1, 0, 0, 0, 0), (80, .iconst 4, 1, 0, 0, 0, 0), (81, .aload_n 0, 1, 0, 0, 0, 0), (82, .getfield 16, 3, 180, 5, 1, 0), (85, .iconst 0, 1, 0, 0, 0, 0), (86, .iaload, 1, 0, 0, 0, 0), (87, .imul, 1, 0, 0, 0, 0), (88, .bipush 6, 2, 0, 0, 0, 0), (90, .aload_n 0, 1, 0, 0, 0, 0), (91, .getfield 16, 3, 180, 5, 1, 0), (94, .iconst 1, 1, 0, 0, 0, 0), (95, .iaload, 1, 0, 0, 0, 0), (96, .imul, 1, 0, 0, 0, 0), (97, .isub, 1, 0, 0, 0, 0), (98, .iconst 4, 1, 0, 0, 0, 0), (99, .aload_n 0, 1, 0, 0, 0, 0), (100, .getfield 16, 3, 180, 5, 1, 0), (103, .iconst 2, 1, 0, 0, 0, 0), (104, .iaload, 1, 0, 0, 0, 0), (105, .imul, 1, 0, 0, 0, 0), (106, .iadd, 1, 0, 0, 0, 0), (107, .aload_n 0, 1, 0, 0, 0, 0), (108, .getfield 16, 3, 180, 5, 1, 0), (111, .iconst 3, 1, 0, 0, 0, 0), (112, .iaload, 1, 0, 0, 0, 0), (113, .isub, 1, 0, 0, 0, 0), (114, .ireturn, 1, 0, 0, 0, 0)]
set_option maxRecDepth 100000 in
set_option maxHeartbeats 4000000 in
theorem c_X5_shapedErrors (l : Launch) (G : vg_G) (hp : vg_Hp G) : vg_Ct l G vg_sh r_X5_shapedErrors := by
  refine vg_meth hp vg_sh_ok r_X5_shapedErrors k_X5_shapedErrors rfl (fun h => by cases h) o_X5_shapedErrors [] false (by decide +kernel) (by decide +kernel) ⟨_, _, rfl, rfl⟩ (fun _ h => absurd h List.not_mem_nil) (fun h => by cases h) 600 ?_
  intro as s0 hpre
  obtain ⟨r, rfl, hr, i0⟩ := hpre
  simp only [List.mem_cons, List.not_mem_nil, or_false] at hr
  rcases hr with rfl | rfl
  ·
    have z0 : (Int32.ofInt 0).toInt = 0 := by decide
    have z1 : (Int32.ofInt 1).toInt = 1 := by decide
    have z2 : (Int32.ofInt 2).toInt = 2 := by decide
    have z3 : (Int32.ofInt 3).toInt = 3 := by decide
    have z4 : (Int32.ofInt 4).toInt = 4 := by decide
    have z6 : (Int32.ofInt 6).toInt = 6 := by decide
    refine ⟨Nat.le_of_ble_eq_true rfl, [], ?_, fun _ h => absurd h List.not_mem_nil⟩
    ·
      intro v1 e2
      have g3 : s0.1 4 1 = v1 := by rw [e2]
      have b4 : (1 : Int) ≤ v1.toInt ∧ v1.toInt ≤ 4 := by rw [e2]; exact Iv_4_1 i0
      refine And.intro (fun c5 => ?_) ?_
      · have c5 : v1.toInt < (1) ∨ (3) < v1.toInt := c5
        refine And.intro ⟨by omega, by omega⟩ ?_
        intro v6 e7
        intro v8 e9
        refine And.intro ⟨by omega, by omega⟩ ?_
        intro v10 e11
        intro v12 e13
        intro v14 e15
        refine And.intro ⟨by omega, by omega⟩ ?_
        intro v16 e17
        intro v18 e19
        intro v20 e21
        refine And.intro ⟨by omega, by omega⟩ ?_
        intro v22 e23
        intro v24 e25
        show s0 = s0 ∧ (True)
        exact ⟨rfl, (trivial)⟩
      refine And.intro (fun c26 => ?_) ?_
      · have c26 : v1.toInt = (1) := c26
        refine And.intro ⟨by omega, by omega⟩ ?_
        intro v27 e28
        show s0 = s0 ∧ (True)
        exact ⟨rfl, (trivial)⟩
      refine And.intro (fun c29 => ?_) ?_
      · have c29 : v1.toInt = (2) := c29
        refine And.intro ⟨by omega, by omega⟩ ?_
        intro v30 e31
        intro v32 e33
        refine And.intro ⟨by omega, by omega⟩ ?_
        intro v34 e35
        intro v36 e37
        show s0 = s0 ∧ (True)
        exact ⟨rfl, (trivial)⟩
      refine And.intro (fun c38 => ?_) ?_
      · have c38 : v1.toInt = (3) := c38
        refine And.intro ⟨by omega, by omega⟩ ?_
        intro v39 e40
        intro v41 e42
        refine And.intro ⟨by omega, by omega⟩ ?_
        intro v43 e44
        intro v45 e46
        intro v47 e48
        refine And.intro ⟨by omega, by omega⟩ ?_
        intro v49 e50
        intro v51 e52
        show s0 = s0 ∧ (True)
        exact ⟨rfl, (trivial)⟩
      exact trivial
  ·
    have z0 : (Int32.ofInt 0).toInt = 0 := by decide
    have z1 : (Int32.ofInt 1).toInt = 1 := by decide
    have z2 : (Int32.ofInt 2).toInt = 2 := by decide
    have z3 : (Int32.ofInt 3).toInt = 3 := by decide
    have z4 : (Int32.ofInt 4).toInt = 4 := by decide
    have z6 : (Int32.ofInt 6).toInt = 6 := by decide
    refine ⟨Nat.le_of_ble_eq_true rfl, [], ?_, fun _ h => absurd h List.not_mem_nil⟩
    ·
      intro v1 e2
      have g3 : s0.1 23 1 = v1 := by rw [e2]
      have b4 : (1 : Int) ≤ v1.toInt ∧ v1.toInt ≤ 4 := by rw [e2]; exact Iv_23_1 i0
      refine And.intro (fun c5 => ?_) ?_
      · have c5 : v1.toInt < (1) ∨ (3) < v1.toInt := c5
        refine And.intro ⟨by omega, by omega⟩ ?_
        intro v6 e7
        intro v8 e9
        refine And.intro ⟨by omega, by omega⟩ ?_
        intro v10 e11
        intro v12 e13
        intro v14 e15
        refine And.intro ⟨by omega, by omega⟩ ?_
        intro v16 e17
        intro v18 e19
        intro v20 e21
        refine And.intro ⟨by omega, by omega⟩ ?_
        intro v22 e23
        intro v24 e25
        show s0 = s0 ∧ (True)
        exact ⟨rfl, (trivial)⟩
      refine And.intro (fun c26 => ?_) ?_
      · have c26 : v1.toInt = (1) := c26
        refine And.intro ⟨by omega, by omega⟩ ?_
        intro v27 e28
        show s0 = s0 ∧ (True)
        exact ⟨rfl, (trivial)⟩
      refine And.intro (fun c29 => ?_) ?_
      · have c29 : v1.toInt = (2) := c29
        refine And.intro ⟨by omega, by omega⟩ ?_
        intro v30 e31
        intro v32 e33
        refine And.intro ⟨by omega, by omega⟩ ?_
        intro v34 e35
        intro v36 e37
        show s0 = s0 ∧ (True)
        exact ⟨rfl, (trivial)⟩
      refine And.intro (fun c38 => ?_) ?_
      · have c38 : v1.toInt = (3) := c38
        refine And.intro ⟨by omega, by omega⟩ ?_
        intro v39 e40
        intro v41 e42
        refine And.intro ⟨by omega, by omega⟩ ?_
        intro v43 e44
        intro v45 e46
        intro v47 e48
        refine And.intro ⟨by omega, by omega⟩ ?_
        intro v49 e50
        intro v51 e52
        show s0 = s0 ∧ (True)
        exact ⟨rfl, (trivial)⟩
      exact trivial
def o_X5_outOfErrors : List vg_I := [(0, .iload_n 1, 1, 0, 0, 0, 0), (1, .aload_n 0, 1, 0, 0, 0, 0), (2, .invokevirtual 125, 3, 0, 5, 0, 701), (5, .iadd, 1, 0, 0, 0, 0), (6, .istore_n 3, 1, 0, 0, 0, 0), (7, .aload_n 0, 1, 0, 0, 0, 0), (8, .getfield 12, 3, 178, 5, 0, 0), (11, .iload_n 3, 1, 0, 0, 0, 0), (12, .iload_n 2, 1, 0, 0, 0, 0), (13, .iadd, 1, 0, 0, 0, 0), (14, .invokevirtual 128, 3, 1, 6, 1, 672), (17, .istore 4, 2, 0, 0, 0, 0), (19, .aload_n 0, 1, 0, 0, 0, 0), (20, .iload_n 3, 1, 0, 0, 0, 0), (21, .aload_n 0, 1, 0, 0, 0, 0), (22, .getfield 12, 3, 178, 5, 0, 0), (25, .iload 4, 2, 0, 0, 0, 0), (27, .invokevirtual 88, 3, 2, 6, 1, 705), (30, .isub, 1, 0, 0, 0, 0), (31, .invokevirtual 131, 3, 3, 5, 1, 661), (34, .istore 5, 2, 0, 0, 0, 0), (36, .aload_n 0, 1, 0, 0, 0, 0), (37, .getfield 12, 3, 178, 5, 0, 0), (40, .getfield 134, 3, 144, 6, 1, 0), (43, .iconst 1, 1, 0, 0, 0, 0), (44, .isub, 1, 0, 0, 0, 0), (45, .istore 6, 2, 0, 0, 0, 0), (47, .iload 6, 2, 0, 0, 0, 0), (49, .ifCond .le 25, 3, 0, 0, 0, 0), (52, .aload_n 0, 1, 0, 0, 0, 0), (53, .getfield 16, 3, 180, 5, 1, 0), (56, .iload 6, 2, 0, 0, 0, 0), (58, .aload_n 0, 1, 0, 0, 0, 0), (59, .getfield 16, 3, 180, 5, 1, 0), (62, .iload 6, 2, 0, 0, 0, 0), (64, .iconst 1, 1, 0, 0, 0, 0), (65, .isub, 1, 0, 0, 0, 0), (66, .iaload, 1, 0, 0, 0, 0), (67, .iastore, 1, 0, 0, 0, 0), (68, .iinc 6 (-1), 3, 0, 0, 0, 0), (71, .goto (-24), 3, 0, 0, 0, 0), (74, .aload_n 0, 1, 0, 0, 0, 0), (75, .getfield 16, 3, 180, 5, 1, 0), (78, .iconst 0, 1, 0, 0, 0, 0), (79, .iload 5, 2, 0, 0, 0, 0), (81, .iastore, 1, 0, 0, 0, 0), (82, .iload 4, 2, 0, 0, 0, 0), (84, .ireturn, 1, 0, 0, 0, 0)]
set_option maxRecDepth 100000 in
set_option maxHeartbeats 4000000 in
theorem c_X5_outOfErrors (l : Launch) (G : vg_G) (hp : vg_Hp G) : vg_Ct l G vg_sh r_X5_outOfErrors := by
  refine vg_meth hp vg_sh_ok r_X5_outOfErrors k_X5_outOfErrors rfl (fun h => by cases h) o_X5_outOfErrors [r_X5_shapedErrors, r_X6_nearest, r_X6_valueOf, r_X5_hold] false (by decide +kernel) (by decide +kernel) ⟨_, _, rfl, rfl⟩ (List.forall_mem_cons.mpr ⟨⟨c_X5_shapedErrors l G hp, Nat.le_of_ble_eq_true rfl, Nat.le_of_ble_eq_true rfl⟩, List.forall_mem_cons.mpr ⟨⟨c_X6_nearest l G hp, Nat.le_of_ble_eq_true rfl, Nat.le_of_ble_eq_true rfl⟩, List.forall_mem_cons.mpr ⟨⟨c_X6_valueOf l G hp, Nat.le_of_ble_eq_true rfl, Nat.le_of_ble_eq_true rfl⟩, List.forall_mem_cons.mpr ⟨⟨c_X5_hold l G hp, Nat.le_of_ble_eq_true rfl, Nat.le_of_ble_eq_true rfl⟩, fun _ h => absurd h List.not_mem_nil⟩⟩⟩⟩) (fun h => by cases h) 600 ?_
  intro as s0 hpre
  obtain ⟨r, a1, a2, rfl, hr, i0⟩ := hpre
  simp only [List.mem_cons, List.not_mem_nil, or_false] at hr
  rcases hr with rfl | rfl
  ·
    have zm1 : (Int32.ofInt (-1)).toInt = -1 := by decide
    have z0 : (Int32.ofInt 0).toInt = 0 := by decide
    have z1 : (Int32.ofInt 1).toInt = 1 := by decide
    refine ⟨Nat.le_of_ble_eq_true rfl, [(47, [true, false, false, false, true, true, true], (fun L t => ∃ (x4 : Int32) (x5 : Int32) (x6 : Int32), L = [some (.ref 3), none, none, none, some (.int x4), some (.int x5), some (.int x6)] ∧ (0 : Int) ≤ x6.toInt ∧ x6.toInt ≤ (3 : Int) ∧ Iv t ∧ Kp s0 t), (fun L _ => (0 + ((vg_li L 6).toInt - (0)) * 1000000000000).toNat))], ?_, List.forall_mem_cons.mpr ⟨?_, fun _ h => absurd h List.not_mem_nil⟩⟩
    ·
      refine And.intro (Nat.le_of_ble_eq_true rfl) (And.intro ⟨3, rfl, by decide, i0⟩ ?_)
      intro v1 s3 h2
      have h2 : s3 = s0 ∧ (True) := h2
      have q6 := h2.1.symm
      subst q6
      intro v7 e8
      intro v9 e10
      refine And.intro (Nat.le_of_ble_eq_true rfl) (And.intro ⟨4, v9, rfl, by decide, i0⟩ ?_)
      intro v11 s13 h12
      have h12 : s13 = s0 ∧ (True) := h12
      have q16 := h12.1.symm
      subst q16
      refine And.intro (Nat.le_of_ble_eq_true rfl) (And.intro ⟨4, v11, rfl, by decide, i0⟩ ?_)
      intro v17 s19 h18
      have h18 : s19 = s0 ∧ (True) := h18
      have q22 := h18.1.symm
      subst q22
      intro v23 e24
      refine And.intro (Nat.le_of_ble_eq_true rfl) (And.intro ⟨3, v23, rfl, by decide, i0⟩ ?_)
      intro v25 s27 h26
      have h26 : Iv s27 ∧ Kp s0 s27 ∧ (True) := h26
      have i28 := h26.1
      have k29 : Kp s0 s27 := Kx.tr Kx.rf (h26.2.1)
      intro v30 e31
      have g32 : s27.1 4 1 = v30 := by rw [e31]
      have b33 : (1 : Int) ≤ v30.toInt ∧ v30.toInt ≤ 4 := by rw [e31]; exact Iv_4_1 i28
      intro v34 e35
      have b36 := vg_sub e35 (by omega) (by omega)
      exact ⟨rfl, ⟨v11, v25, v34, rfl, (by omega), (by omega), i28, k29⟩, trivial⟩
    ·
      intro L s42 hL
      obtain ⟨w37, w38, w39, rfl, b40, b41, i43, k44⟩ := hL
      refine And.intro (fun c45 => ?_) (fun c45 => ?_)
      · have c45 : w39.toInt ≤ 0 := c45
        refine And.intro ⟨by omega, by omega⟩ ?_
        intro s46 e47
        have i48 : Iv s46 := Iv.a1 i43 e47 rfl
        have k49 : Kp s0 s46 := Kx.u1 k44 e47 rfl
        show Iv s46 ∧ Kp s0 s46 ∧ (True)
        exact ⟨i48, k49, (trivial)⟩
      · have c45 : ¬ (w39.toInt ≤ 0) := c45
        intro v50 e51
        have b52 := vg_sub e51 (by omega) (by omega)
        refine And.intro ⟨by omega, by omega⟩ ?_
        intro v53 e54
        refine And.intro ⟨by omega, by omega⟩ ?_
        intro s55 e56
        have i57 : Iv s55 := Iv.a1 i43 e56 rfl
        have k58 : Kp s0 s55 := Kx.u1 k44 e56 rfl
        intro v59 e60
        have b61 := vg_add e60 (by omega) (by omega)
        exact ⟨rfl, ⟨w37, w38, v59, rfl, (by omega), (by omega), i57, k58⟩, (by show (0 + (v59.toInt - (0)) * 1000000000000).toNat < (0 + (w39.toInt - (0)) * 1000000000000).toNat; omega)⟩
  ·
    have zm1 : (Int32.ofInt (-1)).toInt = -1 := by decide
    have z0 : (Int32.ofInt 0).toInt = 0 := by decide
    have z1 : (Int32.ofInt 1).toInt = 1 := by decide
    refine ⟨Nat.le_of_ble_eq_true rfl, [(47, [true, false, false, false, true, true, true], (fun L t => ∃ (x4 : Int32) (x5 : Int32) (x6 : Int32), L = [some (.ref 22), none, none, none, some (.int x4), some (.int x5), some (.int x6)] ∧ (0 : Int) ≤ x6.toInt ∧ x6.toInt ≤ (3 : Int) ∧ Iv t ∧ Kp s0 t), (fun L _ => (0 + ((vg_li L 6).toInt - (0)) * 1000000000000).toNat))], ?_, List.forall_mem_cons.mpr ⟨?_, fun _ h => absurd h List.not_mem_nil⟩⟩
    ·
      refine And.intro (Nat.le_of_ble_eq_true rfl) (And.intro ⟨22, rfl, by decide, i0⟩ ?_)
      intro v1 s3 h2
      have h2 : s3 = s0 ∧ (True) := h2
      have q6 := h2.1.symm
      subst q6
      intro v7 e8
      intro v9 e10
      refine And.intro (Nat.le_of_ble_eq_true rfl) (And.intro ⟨23, v9, rfl, by decide, i0⟩ ?_)
      intro v11 s13 h12
      have h12 : s13 = s0 ∧ (True) := h12
      have q16 := h12.1.symm
      subst q16
      refine And.intro (Nat.le_of_ble_eq_true rfl) (And.intro ⟨23, v11, rfl, by decide, i0⟩ ?_)
      intro v17 s19 h18
      have h18 : s19 = s0 ∧ (True) := h18
      have q22 := h18.1.symm
      subst q22
      intro v23 e24
      refine And.intro (Nat.le_of_ble_eq_true rfl) (And.intro ⟨22, v23, rfl, by decide, i0⟩ ?_)
      intro v25 s27 h26
      have h26 : Iv s27 ∧ Kp s0 s27 ∧ (True) := h26
      have i28 := h26.1
      have k29 : Kp s0 s27 := Kx.tr Kx.rf (h26.2.1)
      intro v30 e31
      have g32 : s27.1 23 1 = v30 := by rw [e31]
      have b33 : (1 : Int) ≤ v30.toInt ∧ v30.toInt ≤ 4 := by rw [e31]; exact Iv_23_1 i28
      intro v34 e35
      have b36 := vg_sub e35 (by omega) (by omega)
      exact ⟨rfl, ⟨v11, v25, v34, rfl, (by omega), (by omega), i28, k29⟩, trivial⟩
    ·
      intro L s42 hL
      obtain ⟨w37, w38, w39, rfl, b40, b41, i43, k44⟩ := hL
      refine And.intro (fun c45 => ?_) (fun c45 => ?_)
      · have c45 : w39.toInt ≤ 0 := c45
        refine And.intro ⟨by omega, by omega⟩ ?_
        intro s46 e47
        have i48 : Iv s46 := Iv.a1 i43 e47 rfl
        have k49 : Kp s0 s46 := Kx.u1 k44 e47 rfl
        show Iv s46 ∧ Kp s0 s46 ∧ (True)
        exact ⟨i48, k49, (trivial)⟩
      · have c45 : ¬ (w39.toInt ≤ 0) := c45
        intro v50 e51
        have b52 := vg_sub e51 (by omega) (by omega)
        refine And.intro ⟨by omega, by omega⟩ ?_
        intro v53 e54
        refine And.intro ⟨by omega, by omega⟩ ?_
        intro s55 e56
        have i57 : Iv s55 := Iv.a1 i43 e56 rfl
        have k58 : Kp s0 s55 := Kx.u1 k44 e56 rfl
        intro v59 e60
        have b61 := vg_add e60 (by omega) (by omega)
        exact ⟨rfl, ⟨w37, w38, v59, rfl, (by omega), (by omega), i57, k58⟩, (by show (0 + (v59.toInt - (0)) * 1000000000000).toNat < (0 + (w39.toInt - (0)) * 1000000000000).toNat; omega)⟩
def o_X5_outOf : List vg_I := [(0, .aload_n 0, 1, 0, 0, 0, 0), (1, .invokevirtual 111, 3, 0, 5, 0, 649), (4, .istore_n 2, 1, 0, 0, 0, 0), (5, .aload_n 0, 1, 0, 0, 0, 0), (6, .getfield 12, 3, 178, 5, 0, 0), (9, .getfield 108, 3, 141, 6, 0, 0), (12, .lookupswitch 42 #[(1, 28), (2, 35)], 28, 0, 0, 0, 0), (40, .aload_n 0, 1, 0, 0, 0, 0), (41, .iload_n 1, 1, 0, 0, 0, 0), (42, .iload_n 2, 1, 0, 0, 0, 0), (43, .invokevirtual 115, 3, 1, 5, 2, 657), (46, .ireturn, 1, 0, 0, 0, 0), (47, .aload_n 0, 1, 0, 0, 0, 0), (48, .iload_n 1, 1, 0, 0, 0, 0), (49, .iload_n 2, 1, 0, 0, 0, 0), (50, .invokevirtual 119, 3, 2, 5, 2, 681), (53, .ireturn, 1, 0, 0, 0, 0), (54, .aload_n 0, 1, 0, 0, 0, 0), (55, .iload_n 1, 1, 0, 0, 0, 0), (56, .iload_n 2, 1, 0, 0, 0, 0), (57, .invokevirtual 122, 3, 3, 5, 2, 697), (60, .ireturn, 1, 0, 0, 0, 0)]
set_option maxRecDepth 100000 in
set_option maxHeartbeats 4000000 in
theorem c_X5_outOf (l : Launch) (G : vg_G) (hp : vg_Hp G) : vg_Ct l G vg_sh r_X5_outOf := by
  refine vg_meth hp vg_sh_ok r_X5_outOf k_X5_outOf rfl (fun h => by cases h) o_X5_outOf [r_X5_drawDither, r_X5_outOfSums, r_X5_outOfCascade, r_X5_outOfErrors] false (by decide +kernel) (by decide +kernel) ⟨_, _, rfl, rfl⟩ (List.forall_mem_cons.mpr ⟨⟨c_X5_drawDither l G hp, Nat.le_of_ble_eq_true rfl, Nat.le_of_ble_eq_true rfl⟩, List.forall_mem_cons.mpr ⟨⟨c_X5_outOfSums l G hp, Nat.le_of_ble_eq_true rfl, Nat.le_of_ble_eq_true rfl⟩, List.forall_mem_cons.mpr ⟨⟨c_X5_outOfCascade l G hp, Nat.le_of_ble_eq_true rfl, Nat.le_of_ble_eq_true rfl⟩, List.forall_mem_cons.mpr ⟨⟨c_X5_outOfErrors l G hp, Nat.le_of_ble_eq_true rfl, Nat.le_of_ble_eq_true rfl⟩, fun _ h => absurd h List.not_mem_nil⟩⟩⟩⟩) (fun h => by cases h) 600 ?_
  intro as s0 hpre
  obtain ⟨r, a1, rfl, hr, i0⟩ := hpre
  simp only [List.mem_cons, List.not_mem_nil, or_false] at hr
  rcases hr with rfl | rfl
  ·
    refine ⟨Nat.le_of_ble_eq_true rfl, [], ?_, fun _ h => absurd h List.not_mem_nil⟩
    ·
      refine And.intro (Nat.le_of_ble_eq_true rfl) (And.intro ⟨3, rfl, by decide, i0⟩ ?_)
      intro v1 s3 h2
      have h2 : Iv s3 ∧ Kp s0 s3 ∧ (True) := h2
      have i4 := h2.1
      have k5 : Kp s0 s3 := Kx.tr Kx.rf (h2.2.1)
      intro v6 e7
      have g8 : s3.1 4 0 = v6 := by rw [e7]
      refine And.intro (fun c9 => ?_) (fun c9 => ?_)
      · have c9 : v6.toInt = (1) := c9
        refine And.intro (Nat.le_of_ble_eq_true rfl) (And.intro ⟨3, a1, v1, rfl, by decide, i4⟩ ?_)
        intro v10 s12 h11
        have h11 : Iv s12 ∧ Kp s3 s12 ∧ (True) := h11
        have i13 := h11.1
        have k14 : Kp s0 s12 := Kx.tr k5 (h11.2.1)
        show Iv s12 ∧ Kp s0 s12 ∧ (True)
        exact ⟨i13, k14, (trivial)⟩
      have c9 : ¬ (v6.toInt = (1)) := c9
      refine And.intro (fun c15 => ?_) (fun c15 => ?_)
      · have c15 : v6.toInt = (2) := c15
        refine And.intro (Nat.le_of_ble_eq_true rfl) (And.intro ⟨3, a1, v1, rfl, by decide, i4⟩ ?_)
        intro v16 s18 h17
        have h17 : Iv s18 ∧ Kp s3 s18 ∧ (True) := h17
        have i19 := h17.1
        have k20 : Kp s0 s18 := Kx.tr k5 (h17.2.1)
        show Iv s18 ∧ Kp s0 s18 ∧ (True)
        exact ⟨i19, k20, (trivial)⟩
      have c15 : ¬ (v6.toInt = (2)) := c15
      refine And.intro (Nat.le_of_ble_eq_true rfl) (And.intro ⟨3, a1, v1, rfl, by decide, i4⟩ ?_)
      intro v21 s23 h22
      have h22 : Iv s23 ∧ Kp s3 s23 ∧ (True) := h22
      have i24 := h22.1
      have k25 : Kp s0 s23 := Kx.tr k5 (h22.2.1)
      show Iv s23 ∧ Kp s0 s23 ∧ (True)
      exact ⟨i24, k25, (trivial)⟩
  ·
    refine ⟨Nat.le_of_ble_eq_true rfl, [], ?_, fun _ h => absurd h List.not_mem_nil⟩
    ·
      refine And.intro (Nat.le_of_ble_eq_true rfl) (And.intro ⟨22, rfl, by decide, i0⟩ ?_)
      intro v1 s3 h2
      have h2 : Iv s3 ∧ Kp s0 s3 ∧ (True) := h2
      have i4 := h2.1
      have k5 : Kp s0 s3 := Kx.tr Kx.rf (h2.2.1)
      intro v6 e7
      have g8 : s3.1 23 0 = v6 := by rw [e7]
      refine And.intro (fun c9 => ?_) (fun c9 => ?_)
      · have c9 : v6.toInt = (1) := c9
        refine And.intro (Nat.le_of_ble_eq_true rfl) (And.intro ⟨22, a1, v1, rfl, by decide, i4⟩ ?_)
        intro v10 s12 h11
        have h11 : Iv s12 ∧ Kp s3 s12 ∧ (True) := h11
        have i13 := h11.1
        have k14 : Kp s0 s12 := Kx.tr k5 (h11.2.1)
        show Iv s12 ∧ Kp s0 s12 ∧ (True)
        exact ⟨i13, k14, (trivial)⟩
      have c9 : ¬ (v6.toInt = (1)) := c9
      refine And.intro (fun c15 => ?_) (fun c15 => ?_)
      · have c15 : v6.toInt = (2) := c15
        refine And.intro (Nat.le_of_ble_eq_true rfl) (And.intro ⟨22, a1, v1, rfl, by decide, i4⟩ ?_)
        intro v16 s18 h17
        have h17 : Iv s18 ∧ Kp s3 s18 ∧ (True) := h17
        have i19 := h17.1
        have k20 : Kp s0 s18 := Kx.tr k5 (h17.2.1)
        show Iv s18 ∧ Kp s0 s18 ∧ (True)
        exact ⟨i19, k20, (trivial)⟩
      have c15 : ¬ (v6.toInt = (2)) := c15
      refine And.intro (Nat.le_of_ble_eq_true rfl) (And.intro ⟨22, a1, v1, rfl, by decide, i4⟩ ?_)
      intro v21 s23 h22
      have h22 : Iv s23 ∧ Kp s3 s23 ∧ (True) := h22
      have i24 := h22.1
      have k25 : Kp s0 s23 := Kx.tr k5 (h22.2.1)
      show Iv s23 ∧ Kp s0 s23 ∧ (True)
      exact ⟨i24, k25, (trivial)⟩
def o_X5_advance : List vg_I := [(0, .aload_n 0, 1, 0, 0, 0, 0), (1, .iconst 0, 1, 0, 0, 0, 0), (2, .putfield 80, 3, 191, 5, 7, 1), (5, .aload_n 0, 1, 0, 0, 0, 0), (6, .iload_n 1, 1, 0, 0, 0, 0), (7, .invokevirtual 84, 3, 0, 5, 1, 645), (10, .istore_n 2, 1, 0, 0, 0, 0), (11, .aload_n 0, 1, 0, 0, 0, 0), (12, .aload_n 0, 1, 0, 0, 0, 0), (13, .getfield 12, 3, 178, 5, 0, 0), (16, .iload_n 2, 1, 0, 0, 0, 0), (17, .invokevirtual 88, 3, 1, 6, 1, 705), (20, .putfield 29, 3, 183, 5, 3, 0), (23, .aload_n 0, 1, 0, 0, 0, 0), (24, .getfield 80, 3, 191, 5, 7, 0), (27, .ifCond .eq 31, 3, 0, 0, 0, 0), (30, .aload_n 0, 1, 0, 0, 0, 0), (31, .dup, 1, 0, 0, 0, 0), (32, .getfield 42, 3, 189, 5, 6, 0), (35, .iconst 1, 1, 0, 0, 0, 0), (36, .iadd, 1, 0, 0, 0, 0), (37, .putfield 42, 3, 189, 5, 6, 0), (40, .aload_n 0, 1, 0, 0, 0, 0), (41, .getfield 12, 3, 178, 5, 0, 0), (44, .getfield 91, 3, 154, 6, 5, 0), (47, .ifCond .eq 11, 3, 0, 0, 0, 0), (50, .aload_n 0, 1, 0, 0, 0, 0), (51, .getfield 16, 3, 180, 5, 1, 0), (54, .iconst 0, 1, 0, 0, 0, 0), (55, .invokestatic 23, 3, 2, 1, 2, 500), (58, .aload_n 0, 1, 0, 0, 0, 0), (59, .dup, 1, 0, 0, 0, 0), (60, .getfield 48, 3, 194, 5, 9, 0), (63, .iload_n 1, 1, 0, 0, 0, 0), (64, .i2l, 1, 0, 0, 0, 0), (65, .ladd, 1, 0, 0, 0, 0), (66, .putfield 48, 3, 194, 5, 9, 2), (69, .aload_n 0, 1, 0, 0, 0, 0), (70, .dup, 1, 0, 0, 0, 0), (71, .getfield 52, 3, 196, 5, 10, 0), (74, .aload_n 0, 1, 0, 0, 0, 0), (75, .getfield 29, 3, 183, 5, 3, 0), (78, .i2l, 1, 0, 0, 0, 0), (79, .ladd, 1, 0, 0, 0, 0), (80, .putfield 52, 3, 196, 5, 10, 2), (83, .aload_n 0, 1, 0, 0, 0, 0), (84, .dup, 1, 0, 0, 0, 0), (85, .getfield 55, 3, 198, 5, 11, 0), (88, .iload_n 2, 1, 0, 0, 0, 0), (89, .i2l, 1, 0, 0, 0, 0), (90, .ladd, 1, 0, 0, 0, 0), (91, .putfield 55, 3, 198, 5, 11, 2), (94, .aload_n 0, 1, 0, 0, 0, 0), (95, .aload_n 0, 1, 0, 0, 0, 0), (96, .getfield 61, 3, 202, 5, 13, 0), (99, .aload_n 0, 1, 0, 0, 0, 0), (100, .invokevirtual 94, 3, 3, 5, 0, 711), (103, .invokestatic 98, 3, 4, 1, 1, 715), (106, .invokestatic 104, 3, 5, 1, 2, 718), (109, .putfield 61, 3, 202, 5, 13, 2), (112, .iload_n 2, 1, 0, 0, 0, 0), (113, .ireturn, 1, 0, 0, 0, 0)]
set_option maxRecDepth 100000 in
set_option maxHeartbeats 4000000 in
theorem c_X5_advance (l : Launch) (G : vg_G) (hp : vg_Hp G) : vg_Ct l G vg_sh r_X5_advance := by
  refine vg_meth hp vg_sh_ok r_X5_advance k_X5_advance rfl (fun h => by cases h) o_X5_advance [r_X5_outOf, r_X6_valueOf, r_J7_fill_53178, r_X5_gapNow, r_J9_abs_067f4, r_J9_max_f86c9] false (by decide +kernel) (by decide +kernel) ⟨_, _, rfl, rfl⟩ (List.forall_mem_cons.mpr ⟨⟨c_X5_outOf l G hp, Nat.le_of_ble_eq_true rfl, Nat.le_of_ble_eq_true rfl⟩, List.forall_mem_cons.mpr ⟨⟨c_X6_valueOf l G hp, Nat.le_of_ble_eq_true rfl, Nat.le_of_ble_eq_true rfl⟩, List.forall_mem_cons.mpr ⟨⟨c_J7_fill_53178 l G hp, Nat.le_of_ble_eq_true rfl, Nat.le_of_ble_eq_true rfl⟩, List.forall_mem_cons.mpr ⟨⟨c_X5_gapNow l G hp, Nat.le_of_ble_eq_true rfl, Nat.le_of_ble_eq_true rfl⟩, List.forall_mem_cons.mpr ⟨⟨c_J9_abs_067f4 l G hp, Nat.le_of_ble_eq_true rfl, Nat.le_of_ble_eq_true rfl⟩, List.forall_mem_cons.mpr ⟨⟨c_J9_max_f86c9 l G hp, Nat.le_of_ble_eq_true rfl, Nat.le_of_ble_eq_true rfl⟩, fun _ h => absurd h List.not_mem_nil⟩⟩⟩⟩⟩⟩) (fun h => by cases h) 600 ?_
  intro as s0 hpre
  obtain ⟨r, a1, rfl, hr, i0⟩ := hpre
  simp only [List.mem_cons, List.not_mem_nil, or_false] at hr
  rcases hr with rfl | rfl
  ·
    have z0 : (Int32.ofInt 0).toInt = 0 := by decide
    have z1 : (Int32.ofInt 1).toInt = 1 := by decide
    refine ⟨Nat.le_of_ble_eq_true rfl, [], ?_, fun _ h => absurd h List.not_mem_nil⟩
    ·
      refine And.intro (by first | exact Or.inl rfl | exact Or.inr rfl | exact vg_01 (by omega) (by omega)) ?_
      intro s1 e2
      have i3 : Iv s1 := Iv.u1 i0 e2 rfl
      have k4 : Kp s0 s1 := Kx.u1 Kx.rf e2 rfl
      refine And.intro (Nat.le_of_ble_eq_true rfl) (And.intro ⟨3, a1, rfl, by decide, i3⟩ ?_)
      intro v5 s7 h6
      have h6 : Iv s7 ∧ Kp s1 s7 ∧ (True) := h6
      have i8 := h6.1
      have k9 : Kp s0 s7 := Kx.tr k4 (h6.2.1)
      refine And.intro (Nat.le_of_ble_eq_true rfl) (And.intro ⟨4, v5, rfl, by decide, i8⟩ ?_)
      intro v10 s12 h11
      have h11 : s12 = s7 ∧ (True) := h11
      have q15 := h11.1.symm
      subst q15
      intro s16 e17
      have i18 : Iv s16 := Iv.u1 i8 e17 rfl
      have k19 : Kp s0 s16 := Kx.u1 k9 e17 rfl
      intro v20 e21
      have g22 : s7.1 3 7 = v20 := by rw [e21, e17, vg_u1_at (a := 3) (b := 7) (k := 3) (i := 3) (by decide)]
      refine And.intro (fun c23 => ?_) (fun c23 => ?_)
      · have c23 : v20.toInt = 0 := c23
        intro v24 e25
        intro v26 e27
        intro v28 e29
        intro s30 e31
        have i32 : Iv s30 := Iv.u2 i18 e31
        have k33 : Kp s0 s30 := Kx.u2 k19 e31 (vg_kq_no ⟨rfl, rfl, rfl⟩).1
        intro v34 e35
        intro v36 e37
        have w38 : v10 = v36 := by rw [e37, e31, vg_u2_1, e17]; exact vg_u1_self.symm
        subst w38
        intro v39 e40
        intro v41 e42
        intro s43 e44
        have i45 : Iv s43 := Iv.u2 i32 e44
        have k46 : Kp s0 s43 := Kx.u2 k33 e44 (vg_kq_no ⟨rfl, rfl, rfl⟩).1
        intro v47 e48
        intro v49 e50
        intro v51 e52
        intro s53 e54
        have i55 : Iv s53 := Iv.u2 i45 e54
        have k56 : Kp s0 s53 := Kx.u2 k46 e54 (vg_kq_no ⟨rfl, rfl, rfl⟩).1
        intro v57 e58
        refine And.intro (Nat.le_of_ble_eq_true rfl) (And.intro ⟨3, rfl, by decide, i55⟩ ?_)
        intro v59 s61 h60
        have h60 : s61 = s53 ∧ (True) := h60
        have q64 := h60.1.symm
        subst q64
        refine And.intro (Nat.le_of_ble_eq_true rfl) (And.intro ⟨v59, rfl, trivial⟩ ?_)
        intro v65 s67 h66
        have h66 : s67 = s53 ∧ (True) := h66
        have q70 := h66.1.symm
        subst q70
        refine And.intro (Nat.le_of_ble_eq_true rfl) (And.intro ⟨v57, v65, rfl, trivial⟩ ?_)
        intro v71 s73 h72
        have h72 : s73 = s53 ∧ (True) := h72
        have q76 := h72.1.symm
        subst q76
        intro s77 e78
        have i79 : Iv s77 := Iv.u2 i55 e78
        have k80 : Kp s0 s77 := Kx.u2 k56 e78 (vg_kq_no ⟨rfl, rfl, rfl⟩).1
        show Iv s77 ∧ Kp s0 s77 ∧ (True)
        exact ⟨i79, k80, (trivial)⟩
      · have c23 : ¬ (v20.toInt = 0) := c23
        intro v81 e82
        have g83 : s7.1 3 6 = v81 := by rw [e82, e17, vg_u1_at (a := 3) (b := 6) (k := 3) (i := 3) (by decide)]
        intro v84 e85
        intro s86 e87
        have i88 : Iv s86 := Iv.u1 i18 e87 rfl
        have k89 : Kp s0 s86 := Kx.u1 k19 e87 rfl
        intro v90 e91
        have g92 : s7.1 4 5 = v90 := by rw [e91, e87, vg_u1_ne (a := 4) (k := 3) (by decide), e17, vg_u1_ne (a := 4) (k := 3) (by decide)]
        have b93 : (0 : Int) ≤ v90.toInt ∧ v90.toInt ≤ 1 := by rw [e91]; exact Iv_4_5 i88
        refine And.intro (fun c94 => ?_) (fun c94 => ?_)
        · have c94 : v90.toInt = 0 := c94
          intro v95 e96
          intro v97 e98
          intro v99 e100
          intro s101 e102
          have i103 : Iv s101 := Iv.u2 i88 e102
          have k104 : Kp s0 s101 := Kx.u2 k89 e102 (vg_kq_no ⟨rfl, rfl, rfl⟩).1
          intro v105 e106
          intro v107 e108
          have w109 : v10 = v107 := by rw [e108, e102, vg_u2_1, e87, vg_u1_at (a := 3) (b := 3) (k := 3) (i := 6) (by decide), e17]; exact vg_u1_self.symm
          subst w109
          intro v110 e111
          intro v112 e113
          intro s114 e115
          have i116 : Iv s114 := Iv.u2 i103 e115
          have k117 : Kp s0 s114 := Kx.u2 k104 e115 (vg_kq_no ⟨rfl, rfl, rfl⟩).1
          intro v118 e119
          intro v120 e121
          intro v122 e123
          intro s124 e125
          have i126 : Iv s124 := Iv.u2 i116 e125
          have k127 : Kp s0 s124 := Kx.u2 k117 e125 (vg_kq_no ⟨rfl, rfl, rfl⟩).1
          intro v128 e129
          refine And.intro (Nat.le_of_ble_eq_true rfl) (And.intro ⟨3, rfl, by decide, i126⟩ ?_)
          intro v130 s132 h131
          have h131 : s132 = s124 ∧ (True) := h131
          have q135 := h131.1.symm
          subst q135
          refine And.intro (Nat.le_of_ble_eq_true rfl) (And.intro ⟨v130, rfl, trivial⟩ ?_)
          intro v136 s138 h137
          have h137 : s138 = s124 ∧ (True) := h137
          have q141 := h137.1.symm
          subst q141
          refine And.intro (Nat.le_of_ble_eq_true rfl) (And.intro ⟨v128, v136, rfl, trivial⟩ ?_)
          intro v142 s144 h143
          have h143 : s144 = s124 ∧ (True) := h143
          have q147 := h143.1.symm
          subst q147
          intro s148 e149
          have i150 : Iv s148 := Iv.u2 i126 e149
          have k151 : Kp s0 s148 := Kx.u2 k127 e149 (vg_kq_no ⟨rfl, rfl, rfl⟩).1
          show Iv s148 ∧ Kp s0 s148 ∧ (True)
          exact ⟨i150, k151, (trivial)⟩
        · have c94 : ¬ (v90.toInt = 0) := c94
          refine And.intro (Nat.le_of_ble_eq_true rfl) (And.intro ⟨5, (Int32.ofInt 0), rfl, by decide, i88⟩ ?_)
          intro s153 h152
          have h152 : Iv s153 ∧ Kp s86 s153 ∧ (True) := h152
          have i154 := h152.1
          have k155 : Kp s0 s153 := Kx.tr k89 (h152.2.1)
          intro v156 e157
          intro v158 e159
          intro v160 e161
          intro s162 e163
          have i164 : Iv s162 := Iv.u2 i154 e163
          have k165 : Kp s0 s162 := Kx.u2 k155 e163 (vg_kq_no ⟨rfl, rfl, rfl⟩).1
          intro v166 e167
          intro v168 e169
          have g170 : s153.1 3 3 = v168 := by rw [e169, e163, vg_u2_1]
          intro v171 e172
          intro v173 e174
          intro s175 e176
          have i177 : Iv s175 := Iv.u2 i164 e176
          have k178 : Kp s0 s175 := Kx.u2 k165 e176 (vg_kq_no ⟨rfl, rfl, rfl⟩).1
          intro v179 e180
          intro v181 e182
          intro v183 e184
          intro s185 e186
          have i187 : Iv s185 := Iv.u2 i177 e186
          have k188 : Kp s0 s185 := Kx.u2 k178 e186 (vg_kq_no ⟨rfl, rfl, rfl⟩).1
          intro v189 e190
          refine And.intro (Nat.le_of_ble_eq_true rfl) (And.intro ⟨3, rfl, by decide, i187⟩ ?_)
          intro v191 s193 h192
          have h192 : s193 = s185 ∧ (True) := h192
          have q196 := h192.1.symm
          subst q196
          refine And.intro (Nat.le_of_ble_eq_true rfl) (And.intro ⟨v191, rfl, trivial⟩ ?_)
          intro v197 s199 h198
          have h198 : s199 = s185 ∧ (True) := h198
          have q202 := h198.1.symm
          subst q202
          refine And.intro (Nat.le_of_ble_eq_true rfl) (And.intro ⟨v189, v197, rfl, trivial⟩ ?_)
          intro v203 s205 h204
          have h204 : s205 = s185 ∧ (True) := h204
          have q208 := h204.1.symm
          subst q208
          intro s209 e210
          have i211 : Iv s209 := Iv.u2 i187 e210
          have k212 : Kp s0 s209 := Kx.u2 k188 e210 (vg_kq_no ⟨rfl, rfl, rfl⟩).1
          show Iv s209 ∧ Kp s0 s209 ∧ (True)
          exact ⟨i211, k212, (trivial)⟩
  ·
    have z0 : (Int32.ofInt 0).toInt = 0 := by decide
    have z1 : (Int32.ofInt 1).toInt = 1 := by decide
    refine ⟨Nat.le_of_ble_eq_true rfl, [], ?_, fun _ h => absurd h List.not_mem_nil⟩
    ·
      refine And.intro (by first | exact Or.inl rfl | exact Or.inr rfl | exact vg_01 (by omega) (by omega)) ?_
      intro s1 e2
      have i3 : Iv s1 := Iv.u1 i0 e2 rfl
      have k4 : Kp s0 s1 := Kx.u1 Kx.rf e2 rfl
      refine And.intro (Nat.le_of_ble_eq_true rfl) (And.intro ⟨22, a1, rfl, by decide, i3⟩ ?_)
      intro v5 s7 h6
      have h6 : Iv s7 ∧ Kp s1 s7 ∧ (True) := h6
      have i8 := h6.1
      have k9 : Kp s0 s7 := Kx.tr k4 (h6.2.1)
      refine And.intro (Nat.le_of_ble_eq_true rfl) (And.intro ⟨23, v5, rfl, by decide, i8⟩ ?_)
      intro v10 s12 h11
      have h11 : s12 = s7 ∧ (True) := h11
      have q15 := h11.1.symm
      subst q15
      intro s16 e17
      have i18 : Iv s16 := Iv.u1 i8 e17 rfl
      have k19 : Kp s0 s16 := Kx.u1 k9 e17 rfl
      intro v20 e21
      have g22 : s7.1 22 7 = v20 := by rw [e21, e17, vg_u1_at (a := 22) (b := 7) (k := 22) (i := 3) (by decide)]
      refine And.intro (fun c23 => ?_) (fun c23 => ?_)
      · have c23 : v20.toInt = 0 := c23
        intro v24 e25
        intro v26 e27
        intro v28 e29
        intro s30 e31
        have i32 : Iv s30 := Iv.u2 i18 e31
        have k33 : Kp s0 s30 := Kx.u2 k19 e31 (vg_kq_no ⟨rfl, rfl, rfl⟩).1
        intro v34 e35
        intro v36 e37
        have w38 : v10 = v36 := by rw [e37, e31, vg_u2_1, e17]; exact vg_u1_self.symm
        subst w38
        intro v39 e40
        intro v41 e42
        intro s43 e44
        have i45 : Iv s43 := Iv.u2 i32 e44
        have k46 : Kp s0 s43 := Kx.u2 k33 e44 (vg_kq_no ⟨rfl, rfl, rfl⟩).1
        intro v47 e48
        intro v49 e50
        intro v51 e52
        intro s53 e54
        have i55 : Iv s53 := Iv.u2 i45 e54
        have k56 : Kp s0 s53 := Kx.u2 k46 e54 (vg_kq_no ⟨rfl, rfl, rfl⟩).1
        intro v57 e58
        refine And.intro (Nat.le_of_ble_eq_true rfl) (And.intro ⟨22, rfl, by decide, i55⟩ ?_)
        intro v59 s61 h60
        have h60 : s61 = s53 ∧ (True) := h60
        have q64 := h60.1.symm
        subst q64
        refine And.intro (Nat.le_of_ble_eq_true rfl) (And.intro ⟨v59, rfl, trivial⟩ ?_)
        intro v65 s67 h66
        have h66 : s67 = s53 ∧ (True) := h66
        have q70 := h66.1.symm
        subst q70
        refine And.intro (Nat.le_of_ble_eq_true rfl) (And.intro ⟨v57, v65, rfl, trivial⟩ ?_)
        intro v71 s73 h72
        have h72 : s73 = s53 ∧ (True) := h72
        have q76 := h72.1.symm
        subst q76
        intro s77 e78
        have i79 : Iv s77 := Iv.u2 i55 e78
        have k80 : Kp s0 s77 := Kx.u2 k56 e78 (vg_kq_no ⟨rfl, rfl, rfl⟩).1
        show Iv s77 ∧ Kp s0 s77 ∧ (True)
        exact ⟨i79, k80, (trivial)⟩
      · have c23 : ¬ (v20.toInt = 0) := c23
        intro v81 e82
        have g83 : s7.1 22 6 = v81 := by rw [e82, e17, vg_u1_at (a := 22) (b := 6) (k := 22) (i := 3) (by decide)]
        intro v84 e85
        intro s86 e87
        have i88 : Iv s86 := Iv.u1 i18 e87 rfl
        have k89 : Kp s0 s86 := Kx.u1 k19 e87 rfl
        intro v90 e91
        have g92 : s7.1 23 5 = v90 := by rw [e91, e87, vg_u1_ne (a := 23) (k := 22) (by decide), e17, vg_u1_ne (a := 23) (k := 22) (by decide)]
        have b93 : (0 : Int) ≤ v90.toInt ∧ v90.toInt ≤ 1 := by rw [e91]; exact Iv_23_5 i88
        refine And.intro (fun c94 => ?_) (fun c94 => ?_)
        · have c94 : v90.toInt = 0 := c94
          intro v95 e96
          intro v97 e98
          intro v99 e100
          intro s101 e102
          have i103 : Iv s101 := Iv.u2 i88 e102
          have k104 : Kp s0 s101 := Kx.u2 k89 e102 (vg_kq_no ⟨rfl, rfl, rfl⟩).1
          intro v105 e106
          intro v107 e108
          have w109 : v10 = v107 := by rw [e108, e102, vg_u2_1, e87, vg_u1_at (a := 22) (b := 3) (k := 22) (i := 6) (by decide), e17]; exact vg_u1_self.symm
          subst w109
          intro v110 e111
          intro v112 e113
          intro s114 e115
          have i116 : Iv s114 := Iv.u2 i103 e115
          have k117 : Kp s0 s114 := Kx.u2 k104 e115 (vg_kq_no ⟨rfl, rfl, rfl⟩).1
          intro v118 e119
          intro v120 e121
          intro v122 e123
          intro s124 e125
          have i126 : Iv s124 := Iv.u2 i116 e125
          have k127 : Kp s0 s124 := Kx.u2 k117 e125 (vg_kq_no ⟨rfl, rfl, rfl⟩).1
          intro v128 e129
          refine And.intro (Nat.le_of_ble_eq_true rfl) (And.intro ⟨22, rfl, by decide, i126⟩ ?_)
          intro v130 s132 h131
          have h131 : s132 = s124 ∧ (True) := h131
          have q135 := h131.1.symm
          subst q135
          refine And.intro (Nat.le_of_ble_eq_true rfl) (And.intro ⟨v130, rfl, trivial⟩ ?_)
          intro v136 s138 h137
          have h137 : s138 = s124 ∧ (True) := h137
          have q141 := h137.1.symm
          subst q141
          refine And.intro (Nat.le_of_ble_eq_true rfl) (And.intro ⟨v128, v136, rfl, trivial⟩ ?_)
          intro v142 s144 h143
          have h143 : s144 = s124 ∧ (True) := h143
          have q147 := h143.1.symm
          subst q147
          intro s148 e149
          have i150 : Iv s148 := Iv.u2 i126 e149
          have k151 : Kp s0 s148 := Kx.u2 k127 e149 (vg_kq_no ⟨rfl, rfl, rfl⟩).1
          show Iv s148 ∧ Kp s0 s148 ∧ (True)
          exact ⟨i150, k151, (trivial)⟩
        · have c94 : ¬ (v90.toInt = 0) := c94
          refine And.intro (Nat.le_of_ble_eq_true rfl) (And.intro ⟨24, (Int32.ofInt 0), rfl, by decide, i88⟩ ?_)
          intro s153 h152
          have h152 : Iv s153 ∧ Kp s86 s153 ∧ (True) := h152
          have i154 := h152.1
          have k155 : Kp s0 s153 := Kx.tr k89 (h152.2.1)
          intro v156 e157
          intro v158 e159
          intro v160 e161
          intro s162 e163
          have i164 : Iv s162 := Iv.u2 i154 e163
          have k165 : Kp s0 s162 := Kx.u2 k155 e163 (vg_kq_no ⟨rfl, rfl, rfl⟩).1
          intro v166 e167
          intro v168 e169
          have g170 : s153.1 22 3 = v168 := by rw [e169, e163, vg_u2_1]
          intro v171 e172
          intro v173 e174
          intro s175 e176
          have i177 : Iv s175 := Iv.u2 i164 e176
          have k178 : Kp s0 s175 := Kx.u2 k165 e176 (vg_kq_no ⟨rfl, rfl, rfl⟩).1
          intro v179 e180
          intro v181 e182
          intro v183 e184
          intro s185 e186
          have i187 : Iv s185 := Iv.u2 i177 e186
          have k188 : Kp s0 s185 := Kx.u2 k178 e186 (vg_kq_no ⟨rfl, rfl, rfl⟩).1
          intro v189 e190
          refine And.intro (Nat.le_of_ble_eq_true rfl) (And.intro ⟨22, rfl, by decide, i187⟩ ?_)
          intro v191 s193 h192
          have h192 : s193 = s185 ∧ (True) := h192
          have q196 := h192.1.symm
          subst q196
          refine And.intro (Nat.le_of_ble_eq_true rfl) (And.intro ⟨v191, rfl, trivial⟩ ?_)
          intro v197 s199 h198
          have h198 : s199 = s185 ∧ (True) := h198
          have q202 := h198.1.symm
          subst q202
          refine And.intro (Nat.le_of_ble_eq_true rfl) (And.intro ⟨v189, v197, rfl, trivial⟩ ?_)
          intro v203 s205 h204
          have h204 : s205 = s185 ∧ (True) := h204
          have q208 := h204.1.symm
          subst q208
          intro s209 e210
          have i211 : Iv s209 := Iv.u2 i187 e210
          have k212 : Kp s0 s209 := Kx.u2 k188 e210 (vg_kq_no ⟨rfl, rfl, rfl⟩).1
          show Iv s209 ∧ Kp s0 s209 ∧ (True)
          exact ⟨i211, k212, (trivial)⟩
def o_X5_writeWords : List vg_I := [(0, .iload_n 2, 1, 0, 0, 0, 0), (1, .ifCond .lt 12, 3, 0, 0, 0, 0), (4, .iload_n 2, 1, 0, 0, 0, 0), (5, .bipush 10, 2, 0, 0, 0, 0), (7, .iadd, 1, 0, 0, 0, 0), (8, .aload_n 1, 1, 0, 0, 0, 0), (9, .arraylength, 1, 0, 0, 0, 0), (10, .if_icmp .le 4, 3, 0, 0, 0, 0), (13, .return_, 1, 0, 0, 0, 0), (14, .aload_n 0, 1, 0, 0, 0, 0), (15, .getfield 16, 3, 180, 5, 1, 0), (18, .iconst 0, 1, 0, 0, 0, 0), (19, .aload_n 1, 1, 0, 0, 0, 0), (20, .iload_n 2, 1, 0, 0, 0, 0), (21, .iconst 4, 1, 0, 0, 0, 0), (22, .invokestatic 74, 3, 0, 3, 0, 966), (25, .aload_n 0, 1, 0, 0, 0, 0), (26, .getfield 20, 3, 182, 5, 2, 0), (29, .iconst 0, 1, 0, 0, 0, 0), (30, .aload_n 1, 1, 0, 0, 0, 0), (31, .iload_n 2, 1, 0, 0, 0, 0), (32, .iconst 4, 1, 0, 0, 0, 0), (33, .iadd, 1, 0, 0, 0, 0), (34, .bipush 6, 2, 0, 0, 0, 0), (36, .invokestatic 74, 3, 0, 3, 0, 966), (39, .aload_n 0, 1, 0, 0, 0, 0), (40, .getfield 12, 3, 178, 5, 0, 0), (43, .getfield 108, 3, 141, 6, 0, 0), (46, .iconst 1, 1, 0, 0, 0, 0), (47, .if_icmp .ne 12, 3, 0, 0, 0, 0), (50, .aload_n 1, 1, 0, 0, 0, 0), (51, .iload_n 2, 1, 0, 0, 0, 0), (52, .iconst 4, 1, 0, 0, 0, 0), (53, .iadd, 1, 0, 0, 0, 0), (54, .aload_n 0, 1, 0, 0, 0, 0), (55, .getfield 29, 3, 183, 5, 3, 0), (58, .iastore, 1, 0, 0, 0, 0), (59, .return_, 1, 0, 0, 0, 0)]
set_option maxRecDepth 100000 in
set_option maxHeartbeats 4000000 in
theorem c_X5_writeWords (l : Launch) (G : vg_G) (hp : vg_Hp G) : vg_Ct l G vg_sh r_X5_writeWords := by
  refine vg_meth hp vg_sh_ok r_X5_writeWords k_X5_writeWords rfl (fun h => by cases h) o_X5_writeWords [] true (by decide +kernel) (by decide +kernel) ⟨_, _, rfl, rfl⟩ (fun _ h => absurd h List.not_mem_nil) (fun _ => ⟨⟨Nat.le_of_ble_eq_true rfl, Nat.le_of_ble_eq_true rfl⟩, vg_cpw_in⟩) 600 ?_
  intro as s0 hpre
  obtain ⟨r, a1, a2, rfl, hr, ha1, i0, p0⟩ := hpre
  simp only [List.mem_cons, List.not_mem_nil, or_false] at hr
  rcases hr with rfl
  ·
    simp only [List.mem_cons, List.not_mem_nil, or_false] at ha1
    rcases ha1 with rfl
    ·
      have z0 : (Int32.ofInt 0).toInt = 0 := by decide
      have z1 : (Int32.ofInt 1).toInt = 1 := by decide
      have z4 : (Int32.ofInt 4).toInt = 4 := by decide
      have z6 : (Int32.ofInt 6).toInt = 6 := by decide
      have z10 : (Int32.ofInt 10).toInt = 10 := by decide
      have n10010 : (Int32.ofNat 10010).toInt = 10010 := by decide
      refine ⟨Nat.le_of_ble_eq_true rfl, [], ?_, fun _ h => absurd h List.not_mem_nil⟩
      ·
        refine And.intro (fun c1 => ?_) (fun c1 => ?_)
        · have c1 : a2.toInt < 0 := c1
          exfalso
          omega
        · have c1 : ¬ (a2.toInt < 0) := c1
          intro v2 e3
          have b4 := vg_add e3 (by omega) (by omega)
          refine And.intro (fun c5 => ?_) (fun c5 => ?_)
          · have c5 : v2.toInt ≤ (Int32.ofNat 10010).toInt := c5
            refine And.intro (Nat.le_of_ble_eq_true rfl) (And.intro (by omega) (And.intro (by omega) (And.intro (by omega) (And.intro (by omega) (And.intro (by omega) ?_)))))
            intro s6 e7
            have i8 : Iv s6 := Iv.w1 i0 e7 rfl
            have k9 : Kp s0 s6 := Kx.w1 Kx.rf e7 (fun _ => rfl)
            intro v10 e11
            have b12 := vg_add e11 (by omega) (by omega)
            refine And.intro (Nat.le_of_ble_eq_true rfl) (And.intro (by omega) (And.intro (by omega) (And.intro (by omega) (And.intro (by omega) (And.intro (by omega) ?_)))))
            intro s13 e14
            have i15 : Iv s13 := Iv.w1 i8 e14 rfl
            have k16 : Kp s0 s13 := Kx.w1 k9 e14 (fun _ => rfl)
            intro v17 e18
            have g19 : s0.1 23 0 = v17 := by rw [e18, e14, vg_w1_at (a := 23) (k := 33) (by decide), e7, vg_w1_at (a := 23) (k := 33) (by decide)]
            refine And.intro (fun c20 => ?_) (fun c20 => ?_)
            · have c20 : ¬ v17.toInt = (Int32.ofInt 1).toInt := c20
              show Iv s13 ∧ Kp s0 s13 ∧ (True)
              exact ⟨i15, k16, (trivial)⟩
            · have c20 : ¬ (¬ v17.toInt = (Int32.ofInt 1).toInt) := c20
              intro v21 e22
              have b23 := vg_add e22 (by omega) (by omega)
              intro v24 e25
              have g26 : s0.1 22 3 = v24 := by rw [e25, e14, vg_w1_at (a := 22) (k := 33) (by decide), e7, vg_w1_at (a := 22) (k := 33) (by decide)]
              refine And.intro ⟨by omega, by omega⟩ ?_
              intro s27 e28
              have i29 : Iv s27 := Iv.a1 i15 e28 rfl
              have k30 : Kp s0 s27 := Kx.u1 k16 e28 rfl
              show Iv s27 ∧ Kp s0 s27 ∧ (True)
              exact ⟨i29, k30, (trivial)⟩
          · have c5 : ¬ (v2.toInt ≤ (Int32.ofNat 10010).toInt) := c5
            exfalso
            omega
def o_X7_numberUnbound : List vg_I := [(0, .aload_n 0, 1, 0, 0, 0, 0), (1, .getfield 27, 3, 104, 7, 0, 0), (4, .tableswitch 88 1 3 #[28, 47, 76], 28, 0, 0, 0, 0), (32, .aload_n 0, 1, 0, 0, 0, 0), (33, .getfield 30, 3, 106, 7, 1, 0), (36, .aload_n 0, 1, 0, 0, 0, 0), (37, .getfield 33, 3, 108, 7, 2, 0), (40, .iload_n 1, 1, 0, 0, 0, 0), (41, .aload_n 0, 1, 0, 0, 0, 0), (42, .getfield 9, 3, 110, 7, 3, 0), (45, .invokestatic 36, 3, 0, 1, 2, 628), (48, .imul, 1, 0, 0, 0, 0), (49, .iadd, 1, 0, 0, 0, 0), (50, .ireturn, 1, 0, 0, 0, 0), (51, .iload_n 1, 1, 0, 0, 0, 0), (52, .iconst 2, 1, 0, 0, 0, 0), (53, .aload_n 0, 1, 0, 0, 0, 0), (54, .getfield 9, 3, 110, 7, 3, 0), (57, .imul, 1, 0, 0, 0, 0), (58, .invokestatic 36, 3, 0, 1, 2, 628), (61, .aload_n 0, 1, 0, 0, 0, 0), (62, .getfield 9, 3, 110, 7, 3, 0), (65, .if_icmp .ge 10, 3, 0, 0, 0, 0), (68, .aload_n 0, 1, 0, 0, 0, 0), (69, .getfield 30, 3, 106, 7, 1, 0), (72, .goto 7, 3, 0, 0, 0, 0), (75, .aload_n 0, 1, 0, 0, 0, 0), (76, .getfield 33, 3, 108, 7, 2, 0), (79, .ireturn, 1, 0, 0, 0, 0), (80, .aload_n 0, 1, 0, 0, 0, 0), (81, .getfield 15, 3, 112, 7, 4, 0), (84, .iload_n 1, 1, 0, 0, 0, 0), (85, .bipush 16, 2, 0, 0, 0, 0), (87, .invokestatic 36, 3, 0, 1, 2, 628), (90, .iaload, 1, 0, 0, 0, 0), (91, .ireturn, 1, 0, 0, 0, 0), (92, .aload_n 0, 1, 0, 0, 0, 0), (93, .getfield 30, 3, 106, 7, 1, 0), (96, .ireturn, 1, 0, 0, 0, 0)]
set_option maxRecDepth 100000 in
set_option maxHeartbeats 4000000 in
theorem c_X7_numberUnbound (l : Launch) (G : vg_G) (hp : vg_Hp G) : vg_Ct l G vg_sh r_X7_numberUnbound := by
  refine vg_meth hp vg_sh_ok r_X7_numberUnbound k_X7_numberUnbound rfl (fun h => by cases h) o_X7_numberUnbound [r_J9_floorMod_7cf53] false (by decide +kernel) (by decide +kernel) ⟨_, _, rfl, rfl⟩ (List.forall_mem_cons.mpr ⟨⟨c_J9_floorMod_7cf53 l G hp, Nat.le_of_ble_eq_true rfl, Nat.le_of_ble_eq_true rfl⟩, fun _ h => absurd h List.not_mem_nil⟩) (fun h => by cases h) 600 ?_
  intro as s0 hpre
  obtain ⟨r, a1, rfl, hr, i0⟩ := hpre
  simp only [List.mem_cons, List.not_mem_nil, or_false] at hr
  rcases hr with rfl
  ·
    have z2 : (Int32.ofInt 2).toInt = 2 := by decide
    have z16 : (Int32.ofInt 16).toInt = 16 := by decide
    refine ⟨Nat.le_of_ble_eq_true rfl, [], ?_, fun _ h => absurd h List.not_mem_nil⟩
    ·
      intro v1 e2
      have g3 : s0.1 1 0 = v1 := by rw [e2]
      refine And.intro (fun c4 => ?_) ?_
      · have c4 : v1.toInt < (1) ∨ (3) < v1.toInt := c4
        intro v5 e6
        have g7 : s0.1 1 1 = v5 := by rw [e6]
        show s0 = s0 ∧ (True)
        exact ⟨rfl, (trivial)⟩
      refine And.intro (fun c8 => ?_) ?_
      · have c8 : v1.toInt = (1) := c8
        intro v9 e10
        have g11 : s0.1 1 1 = v9 := by rw [e10]
        intro v12 e13
        have g14 : s0.1 1 2 = v12 := by rw [e13]
        intro v15 e16
        have g17 : s0.1 1 3 = v15 := by rw [e16]
        have b18 : (1 : Int) ≤ v15.toInt ∧ v15.toInt ≤ 1000 := by rw [e16]; exact Iv_1_3 i0
        refine And.intro (Nat.le_of_ble_eq_true rfl) (And.intro ⟨a1, v15, rfl, by omega⟩ ?_)
        intro v19 s21 h20
        have h20 : s21 = s0 ∧ (0 ≤ v19.toInt ∧ v19.toInt < v15.toInt) := h20
        have q24 := h20.1.symm
        subst q24
        have q25 := h20.2
        intro v26 e27
        intro v28 e29
        show s0 = s0 ∧ (True)
        exact ⟨rfl, (trivial)⟩
      refine And.intro (fun c30 => ?_) ?_
      · have c30 : v1.toInt = (2) := c30
        intro v31 e32
        have g33 : s0.1 1 3 = v31 := by rw [e32]
        have b34 : (1 : Int) ≤ v31.toInt ∧ v31.toInt ≤ 1000 := by rw [e32]; exact Iv_1_3 i0
        intro v35 e36
        have b37 : v35.toInt = (2) * v31.toInt := vg_mulL e36 (by omega) (by omega) (by omega)
        refine And.intro (Nat.le_of_ble_eq_true rfl) (And.intro ⟨a1, v35, rfl, by omega⟩ ?_)
        intro v38 s40 h39
        have h39 : s40 = s0 ∧ (0 ≤ v38.toInt ∧ v38.toInt < v35.toInt) := h39
        have q43 := h39.1.symm
        subst q43
        have q44 := h39.2
        intro v45 e46
        have w47 : v31 = v45 := by rw [e46, g33]
        subst w47
        refine And.intro (fun c48 => ?_) (fun c48 => ?_)
        · have c48 : v31.toInt ≤ v38.toInt := c48
          intro v49 e50
          have g51 : s0.1 1 2 = v49 := by rw [e50]
          show s0 = s0 ∧ (True)
          exact ⟨rfl, (trivial)⟩
        · have c48 : ¬ (v31.toInt ≤ v38.toInt) := c48
          intro v52 e53
          have g54 : s0.1 1 1 = v52 := by rw [e53]
          show s0 = s0 ∧ (True)
          exact ⟨rfl, (trivial)⟩
      refine And.intro (fun c55 => ?_) ?_
      · have c55 : v1.toInt = (3) := c55
        refine And.intro (Nat.le_of_ble_eq_true rfl) (And.intro ⟨a1, (Int32.ofInt 16), rfl, by omega⟩ ?_)
        intro v56 s58 h57
        have h57 : s58 = s0 ∧ (0 ≤ v56.toInt ∧ v56.toInt < (Int32.ofInt 16).toInt) := h57
        have q61 := h57.1.symm
        subst q61
        have q62 := h57.2
        refine And.intro ⟨by omega, by omega⟩ ?_
        intro v63 e64
        show s0 = s0 ∧ (True)
        exact ⟨rfl, (trivial)⟩
      exact trivial
def o_X7_numberAt : List vg_I := [(0, .aload_n 0, 1, 0, 0, 0, 0), (1, .iload_n 1, 1, 0, 0, 0, 0), (2, .invokevirtual 19, 3, 0, 7, 1, 624), (5, .sipush 30000, 3, 0, 0, 0, 0), (8, .invokestatic 23, 3, 1, 2, 2, 1), (11, .ireturn, 1, 0, 0, 0, 0)]
set_option maxRecDepth 100000 in
set_option maxHeartbeats 4000000 in
theorem c_X7_numberAt (l : Launch) (G : vg_G) (hp : vg_Hp G) : vg_Ct l G vg_sh r_X7_numberAt := by
  refine vg_meth hp vg_sh_ok r_X7_numberAt k_X7_numberAt rfl (fun h => by cases h) o_X7_numberAt [r_X7_numberUnbound, r_X10_putTo] false (by decide +kernel) (by decide +kernel) ⟨_, _, rfl, rfl⟩ (List.forall_mem_cons.mpr ⟨⟨c_X7_numberUnbound l G hp, Nat.le_of_ble_eq_true rfl, Nat.le_of_ble_eq_true rfl⟩, List.forall_mem_cons.mpr ⟨⟨c_X10_putTo l G hp, Nat.le_of_ble_eq_true rfl, Nat.le_of_ble_eq_true rfl⟩, fun _ h => absurd h List.not_mem_nil⟩⟩) (fun h => by cases h) 600 ?_
  intro as s0 hpre
  obtain ⟨r, a1, rfl, hr, i0⟩ := hpre
  simp only [List.mem_cons, List.not_mem_nil, or_false] at hr
  rcases hr with rfl
  ·
    have z30000 : (Int32.ofInt 30000).toInt = 30000 := by decide
    refine ⟨Nat.le_of_ble_eq_true rfl, [], ?_, fun _ h => absurd h List.not_mem_nil⟩
    ·
      refine And.intro (Nat.le_of_ble_eq_true rfl) (And.intro ⟨1, a1, rfl, by decide, i0⟩ ?_)
      intro v1 s3 h2
      have h2 : s3 = s0 ∧ (True) := h2
      have q6 := h2.1.symm
      subst q6
      refine And.intro (Nat.le_of_ble_eq_true rfl) (And.intro ⟨v1, (Int32.ofInt 30000), rfl, trivial⟩ ?_)
      intro v7 s9 h8
      have h8 : s9 = s0 ∧ (True) := h8
      have q12 := h8.1.symm
      subst q12
      show s0 = s0 ∧ (True)
      exact ⟨rfl, (trivial)⟩
end
