section
-- ===== PART A: goes FIRST, ahead of the names: the tables' words, and 'selects' of the private methods out of them =====
/-- a private method of a class that the tables say can be made, by its rows of tables_1 -/
def lw_okq (q : MethodName × Nat) : Prop := (q.1.cls ≠ "java/lang/invoke/MethodHandle" ∧ q.1.cls ≠ "java/lang/invoke/VarHandle") ∧ Cond.instantiable q.1.cls q.2 ∈ tables_1 ∧ Cond.privateMethod q.1 ∈ tables_1 ∧ Cond.instanceMethod q.1 ∈ tables_1
theorem lw_p0 : lw_okq (⟨"NoiseShaper", "refuse", "(I)I"⟩, 14) := ⟨⟨by decide +kernel, by decide +kernel⟩, List.mem_of_getElem? (i := 18) (by decide +kernel), List.mem_of_getElem? (i := 412) (by decide +kernel), List.mem_of_getElem? (i := 413) (by decide +kernel)⟩
theorem lw_p1 : lw_okq (⟨"NoiseShaper", "beginAnewFrom", "(I)V"⟩, 14) := ⟨⟨by decide +kernel, by decide +kernel⟩, List.mem_of_getElem? (i := 18) (by decide +kernel), List.mem_of_getElem? (i := 416) (by decide +kernel), List.mem_of_getElem? (i := 417) (by decide +kernel)⟩
theorem lw_p2 : lw_okq (⟨"NoiseShaper", "answer", "(I)I"⟩, 14) := ⟨⟨by decide +kernel, by decide +kernel⟩, List.mem_of_getElem? (i := 18) (by decide +kernel), List.mem_of_getElem? (i := 448) (by decide +kernel), List.mem_of_getElem? (i := 449) (by decide +kernel)⟩
theorem lw_p3 : lw_okq (⟨"NoiseShaper$Elements", "weightsOf", "(I)I"⟩, 11) := ⟨⟨by decide +kernel, by decide +kernel⟩, List.mem_of_getElem? (i := 161) (by decide +kernel), List.mem_of_getElem? (i := 488) (by decide +kernel), List.mem_of_getElem? (i := 489) (by decide +kernel)⟩
theorem lw_p4 : lw_okq (⟨"NoiseShaper", "oneClock", "()V"⟩, 14) := ⟨⟨by decide +kernel, by decide +kernel⟩, List.mem_of_getElem? (i := 18) (by decide +kernel), List.mem_of_getElem? (i := 544) (by decide +kernel), List.mem_of_getElem? (i := 545) (by decide +kernel)⟩
theorem lw_p5 : lw_okq (⟨"NoiseShaper$Source", "numberUnbound", "(I)I"⟩, 5) := ⟨⟨by decide +kernel, by decide +kernel⟩, List.mem_of_getElem? (i := 26) (by decide +kernel), List.mem_of_getElem? (i := 552) (by decide +kernel), List.mem_of_getElem? (i := 553) (by decide +kernel)⟩
theorem lw_p6 : lw_okq (⟨"NoiseShaper$Loop", "outOf", "(I)I"⟩, 14) := ⟨⟨by decide +kernel, by decide +kernel⟩, List.mem_of_getElem? (i := 54) (by decide +kernel), List.mem_of_getElem? (i := 573) (by decide +kernel), List.mem_of_getElem? (i := 574) (by decide +kernel)⟩
theorem lw_p7 : lw_okq (⟨"NoiseShaper$Loop", "drawDither", "()I"⟩, 14) := ⟨⟨by decide +kernel, by decide +kernel⟩, List.mem_of_getElem? (i := 54) (by decide +kernel), List.mem_of_getElem? (i := 577) (by decide +kernel), List.mem_of_getElem? (i := 578) (by decide +kernel)⟩
theorem lw_p8 : lw_okq (⟨"NoiseShaper$Loop", "outOfSums", "(II)I"⟩, 14) := ⟨⟨by decide +kernel, by decide +kernel⟩, List.mem_of_getElem? (i := 54) (by decide +kernel), List.mem_of_getElem? (i := 585) (by decide +kernel), List.mem_of_getElem? (i := 586) (by decide +kernel)⟩
theorem lw_p9 : lw_okq (⟨"NoiseShaper$Loop", "hold", "(I)I"⟩, 14) := ⟨⟨by decide +kernel, by decide +kernel⟩, List.mem_of_getElem? (i := 54) (by decide +kernel), List.mem_of_getElem? (i := 589) (by decide +kernel), List.mem_of_getElem? (i := 590) (by decide +kernel)⟩
theorem lw_p10 : lw_okq (⟨"NoiseShaper$Loop", "outOfCascade", "(II)I"⟩, 14) := ⟨⟨by decide +kernel, by decide +kernel⟩, List.mem_of_getElem? (i := 54) (by decide +kernel), List.mem_of_getElem? (i := 609) (by decide +kernel), List.mem_of_getElem? (i := 610) (by decide +kernel)⟩
theorem lw_p11 : lw_okq (⟨"NoiseShaper$Loop", "differenceOf", "(II)I"⟩, 14) := ⟨⟨by decide +kernel, by decide +kernel⟩, List.mem_of_getElem? (i := 54) (by decide +kernel), List.mem_of_getElem? (i := 621) (by decide +kernel), List.mem_of_getElem? (i := 622) (by decide +kernel)⟩
theorem lw_p12 : lw_okq (⟨"NoiseShaper$Loop", "outOfErrors", "(II)I"⟩, 14) := ⟨⟨by decide +kernel, by decide +kernel⟩, List.mem_of_getElem? (i := 54) (by decide +kernel), List.mem_of_getElem? (i := 625) (by decide +kernel), List.mem_of_getElem? (i := 626) (by decide +kernel)⟩
theorem lw_p13 : lw_okq (⟨"NoiseShaper$Loop", "shapedErrors", "()I"⟩, 14) := ⟨⟨by decide +kernel, by decide +kernel⟩, List.mem_of_getElem? (i := 54) (by decide +kernel), List.mem_of_getElem? (i := 629) (by decide +kernel), List.mem_of_getElem? (i := 630) (by decide +kernel)⟩
theorem lw_p14 : lw_okq (⟨"NoiseShaper$Elements", "chooseRotated", "(I)I"⟩, 11) := ⟨⟨by decide +kernel, by decide +kernel⟩, List.mem_of_getElem? (i := 161) (by decide +kernel), List.mem_of_getElem? (i := 657) (by decide +kernel), List.mem_of_getElem? (i := 658) (by decide +kernel)⟩
theorem lw_p15 : lw_okq (⟨"NoiseShaper$Elements", "chooseTwice", "(I)I"⟩, 11) := ⟨⟨by decide +kernel, by decide +kernel⟩, List.mem_of_getElem? (i := 161) (by decide +kernel), List.mem_of_getElem? (i := 661) (by decide +kernel), List.mem_of_getElem? (i := 662) (by decide +kernel)⟩
def lw_privs_1 : List (MethodName × Nat) := [(⟨"NoiseShaper", "refuse", "(I)I"⟩, 14), (⟨"NoiseShaper", "beginAnewFrom", "(I)V"⟩, 14), (⟨"NoiseShaper", "answer", "(I)I"⟩, 14), (⟨"NoiseShaper$Elements", "weightsOf", "(I)I"⟩, 11), (⟨"NoiseShaper", "oneClock", "()V"⟩, 14), (⟨"NoiseShaper$Source", "numberUnbound", "(I)I"⟩, 5), (⟨"NoiseShaper$Loop", "outOf", "(I)I"⟩, 14), (⟨"NoiseShaper$Loop", "drawDither", "()I"⟩, 14), (⟨"NoiseShaper$Loop", "outOfSums", "(II)I"⟩, 14), (⟨"NoiseShaper$Loop", "hold", "(I)I"⟩, 14), (⟨"NoiseShaper$Loop", "outOfCascade", "(II)I"⟩, 14), (⟨"NoiseShaper$Loop", "differenceOf", "(II)I"⟩, 14), (⟨"NoiseShaper$Loop", "outOfErrors", "(II)I"⟩, 14), (⟨"NoiseShaper$Loop", "shapedErrors", "()I"⟩, 14), (⟨"NoiseShaper$Elements", "chooseRotated", "(I)I"⟩, 11), (⟨"NoiseShaper$Elements", "chooseTwice", "(I)I"⟩, 11)]
theorem lw_r1 : ∀ q ∈ lw_privs_1, lw_okq q := List.forall_mem_cons.mpr ⟨lw_p0, List.forall_mem_cons.mpr ⟨lw_p1, List.forall_mem_cons.mpr ⟨lw_p2, List.forall_mem_cons.mpr ⟨lw_p3, List.forall_mem_cons.mpr ⟨lw_p4, List.forall_mem_cons.mpr ⟨lw_p5, List.forall_mem_cons.mpr ⟨lw_p6, List.forall_mem_cons.mpr ⟨lw_p7, List.forall_mem_cons.mpr ⟨lw_p8, List.forall_mem_cons.mpr ⟨lw_p9, List.forall_mem_cons.mpr ⟨lw_p10, List.forall_mem_cons.mpr ⟨lw_p11, List.forall_mem_cons.mpr ⟨lw_p12, List.forall_mem_cons.mpr ⟨lw_p13, List.forall_mem_cons.mpr ⟨lw_p14, List.forall_mem_cons.mpr ⟨lw_p15, fun _ h => absurd h List.not_mem_nil⟩⟩⟩⟩⟩⟩⟩⟩⟩⟩⟩⟩⟩⟩⟩⟩
theorem lw_p16 : lw_okq (⟨"NoiseShaper$Elements", "mostDue", "(I)I"⟩, 11) := ⟨⟨by decide +kernel, by decide +kernel⟩, List.mem_of_getElem? (i := 161) (by decide +kernel), List.mem_of_getElem? (i := 665) (by decide +kernel), List.mem_of_getElem? (i := 666) (by decide +kernel)⟩
theorem lw_p17 : lw_okq (⟨"NoiseShaper$Elements", "runUpDebts", "(I)V"⟩, 11) := ⟨⟨by decide +kernel, by decide +kernel⟩, List.mem_of_getElem? (i := 161) (by decide +kernel), List.mem_of_getElem? (i := 669) (by decide +kernel), List.mem_of_getElem? (i := 670) (by decide +kernel)⟩
theorem lw_p18 : lw_okq (⟨"NoiseShaper", "handToFolds", "(I)V"⟩, 14) := ⟨⟨by decide +kernel, by decide +kernel⟩, List.mem_of_getElem? (i := 18) (by decide +kernel), List.mem_of_getElem? (i := 691) (by decide +kernel), List.mem_of_getElem? (i := 692) (by decide +kernel)⟩
theorem lw_p19 : lw_okq (⟨"NoiseShaper", "answerLong", "(J)J"⟩, 14) := ⟨⟨by decide +kernel, by decide +kernel⟩, List.mem_of_getElem? (i := 18) (by decide +kernel), List.mem_of_getElem? (i := 728) (by decide +kernel), List.mem_of_getElem? (i := 729) (by decide +kernel)⟩
theorem lw_p20 : lw_okq (⟨"NoiseShaper", "keptByLoop", "()I"⟩, 14) := ⟨⟨by decide +kernel, by decide +kernel⟩, List.mem_of_getElem? (i := 18) (by decide +kernel), List.mem_of_getElem? (i := 737) (by decide +kernel), List.mem_of_getElem? (i := 738) (by decide +kernel)⟩
theorem lw_p21 : lw_okq (⟨"NoiseShaper", "greatestGapOf", "(I)J"⟩, 14) := ⟨⟨by decide +kernel, by decide +kernel⟩, List.mem_of_getElem? (i := 18) (by decide +kernel), List.mem_of_getElem? (i := 742) (by decide +kernel), List.mem_of_getElem? (i := 743) (by decide +kernel)⟩
theorem lw_p22 : lw_okq (⟨"NoiseShaper$Taps", "manyOf", "(II)I"⟩, 2) := ⟨⟨by decide +kernel, by decide +kernel⟩, List.mem_of_getElem? (i := 256) (by decide +kernel), List.mem_of_getElem? (i := 808) (by decide +kernel), List.mem_of_getElem? (i := 809) (by decide +kernel)⟩
theorem lw_p23 : lw_okq (⟨"NoiseShaper$Comb", "foldByOnes", "()V"⟩, 10) := ⟨⟨by decide +kernel, by decide +kernel⟩, List.mem_of_getElem? (i := 212) (by decide +kernel), List.mem_of_getElem? (i := 834) (by decide +kernel), List.mem_of_getElem? (i := 835) (by decide +kernel)⟩
theorem lw_p24 : lw_okq (⟨"NoiseShaper$Tone", "findOrPut", "(I)I"⟩, 6) := ⟨⟨by decide +kernel, by decide +kernel⟩, List.mem_of_getElem? (i := 288) (by decide +kernel), List.mem_of_getElem? (i := 895) (by decide +kernel), List.mem_of_getElem? (i := 896) (by decide +kernel)⟩
theorem lw_p25 : lw_okq (⟨"NoiseShaper$Tone", "cellOf", "(I)I"⟩, 6) := ⟨⟨by decide +kernel, by decide +kernel⟩, List.mem_of_getElem? (i := 288) (by decide +kernel), List.mem_of_getElem? (i := 899) (by decide +kernel), List.mem_of_getElem? (i := 900) (by decide +kernel)⟩
theorem lw_p26 : lw_okq (⟨"NoiseShaper$Tone", "isSame", "(II)Z"⟩, 6) := ⟨⟨by decide +kernel, by decide +kernel⟩, List.mem_of_getElem? (i := 288) (by decide +kernel), List.mem_of_getElem? (i := 904) (by decide +kernel), List.mem_of_getElem? (i := 905) (by decide +kernel)⟩
theorem lw_p27 : lw_okq (⟨"NoiseShaper$Tone", "patternAt", "(I)I"⟩, 6) := ⟨⟨by decide +kernel, by decide +kernel⟩, List.mem_of_getElem? (i := 288) (by decide +kernel), List.mem_of_getElem? (i := 913) (by decide +kernel), List.mem_of_getElem? (i := 914) (by decide +kernel)⟩
theorem lw_p28 : lw_okq (⟨"NoiseShaper", "hitClocksAhead", "(II)I"⟩, 14) := ⟨⟨by decide +kernel, by decide +kernel⟩, List.mem_of_getElem? (i := 18) (by decide +kernel), List.mem_of_getElem? (i := 973) (by decide +kernel), List.mem_of_getElem? (i := 974) (by decide +kernel)⟩
theorem lw_p29 : lw_okq (⟨"NoiseShaperModel", "refuse", "(I)I"⟩, 35) := ⟨⟨by decide +kernel, by decide +kernel⟩, List.mem_of_getElem? (i := 982) (by decide +kernel), List.mem_of_getElem? (i := 1109) (by decide +kernel), List.mem_of_getElem? (i := 1110) (by decide +kernel)⟩
theorem lw_p30 : lw_okq (⟨"NoiseShaperModel", "begins", "(I)V"⟩, 35) := ⟨⟨by decide +kernel, by decide +kernel⟩, List.mem_of_getElem? (i := 982) (by decide +kernel), List.mem_of_getElem? (i := 1113) (by decide +kernel), List.mem_of_getElem? (i := 1114) (by decide +kernel)⟩
theorem lw_p31 : lw_okq (⟨"NoiseShaperModel", "wipes", "(II)V"⟩, 35) := ⟨⟨by decide +kernel, by decide +kernel⟩, List.mem_of_getElem? (i := 982) (by decide +kernel), List.mem_of_getElem? (i := 1117) (by decide +kernel), List.mem_of_getElem? (i := 1118) (by decide +kernel)⟩
def lw_privs_2 : List (MethodName × Nat) := [(⟨"NoiseShaper$Elements", "mostDue", "(I)I"⟩, 11), (⟨"NoiseShaper$Elements", "runUpDebts", "(I)V"⟩, 11), (⟨"NoiseShaper", "handToFolds", "(I)V"⟩, 14), (⟨"NoiseShaper", "answerLong", "(J)J"⟩, 14), (⟨"NoiseShaper", "keptByLoop", "()I"⟩, 14), (⟨"NoiseShaper", "greatestGapOf", "(I)J"⟩, 14), (⟨"NoiseShaper$Taps", "manyOf", "(II)I"⟩, 2), (⟨"NoiseShaper$Comb", "foldByOnes", "()V"⟩, 10), (⟨"NoiseShaper$Tone", "findOrPut", "(I)I"⟩, 6), (⟨"NoiseShaper$Tone", "cellOf", "(I)I"⟩, 6), (⟨"NoiseShaper$Tone", "isSame", "(II)Z"⟩, 6), (⟨"NoiseShaper$Tone", "patternAt", "(I)I"⟩, 6), (⟨"NoiseShaper", "hitClocksAhead", "(II)I"⟩, 14), (⟨"NoiseShaperModel", "refuse", "(I)I"⟩, 35), (⟨"NoiseShaperModel", "begins", "(I)V"⟩, 35), (⟨"NoiseShaperModel", "wipes", "(II)V"⟩, 35)]
theorem lw_r2 : ∀ q ∈ lw_privs_2, lw_okq q := List.forall_mem_cons.mpr ⟨lw_p16, List.forall_mem_cons.mpr ⟨lw_p17, List.forall_mem_cons.mpr ⟨lw_p18, List.forall_mem_cons.mpr ⟨lw_p19, List.forall_mem_cons.mpr ⟨lw_p20, List.forall_mem_cons.mpr ⟨lw_p21, List.forall_mem_cons.mpr ⟨lw_p22, List.forall_mem_cons.mpr ⟨lw_p23, List.forall_mem_cons.mpr ⟨lw_p24, List.forall_mem_cons.mpr ⟨lw_p25, List.forall_mem_cons.mpr ⟨lw_p26, List.forall_mem_cons.mpr ⟨lw_p27, List.forall_mem_cons.mpr ⟨lw_p28, List.forall_mem_cons.mpr ⟨lw_p29, List.forall_mem_cons.mpr ⟨lw_p30, List.forall_mem_cons.mpr ⟨lw_p31, fun _ h => absurd h List.not_mem_nil⟩⟩⟩⟩⟩⟩⟩⟩⟩⟩⟩⟩⟩⟩⟩⟩
theorem lw_p32 : lw_okq (⟨"NoiseShaperModel", "beginsLoop", "()V"⟩, 35) := ⟨⟨by decide +kernel, by decide +kernel⟩, List.mem_of_getElem? (i := 982) (by decide +kernel), List.mem_of_getElem? (i := 1121) (by decide +kernel), List.mem_of_getElem? (i := 1122) (by decide +kernel)⟩
theorem lw_p33 : lw_okq (⟨"NoiseShaperModel", "beginsElements", "()V"⟩, 35) := ⟨⟨by decide +kernel, by decide +kernel⟩, List.mem_of_getElem? (i := 982) (by decide +kernel), List.mem_of_getElem? (i := 1125) (by decide +kernel), List.mem_of_getElem? (i := 1126) (by decide +kernel)⟩
theorem lw_p34 : lw_okq (⟨"NoiseShaperModel", "get", "(I)I"⟩, 35) := ⟨⟨by decide +kernel, by decide +kernel⟩, List.mem_of_getElem? (i := 982) (by decide +kernel), List.mem_of_getElem? (i := 1130) (by decide +kernel), List.mem_of_getElem? (i := 1131) (by decide +kernel)⟩
theorem lw_p35 : lw_okq (⟨"NoiseShaperModel", "gives", "(I)I"⟩, 35) := ⟨⟨by decide +kernel, by decide +kernel⟩, List.mem_of_getElem? (i := 982) (by decide +kernel), List.mem_of_getElem? (i := 1134) (by decide +kernel), List.mem_of_getElem? (i := 1135) (by decide +kernel)⟩
theorem lw_p36 : lw_okq (⟨"NoiseShaperModel", "elements", "()I"⟩, 35) := ⟨⟨by decide +kernel, by decide +kernel⟩, List.mem_of_getElem? (i := 982) (by decide +kernel), List.mem_of_getElem? (i := 1146) (by decide +kernel), List.mem_of_getElem? (i := 1147) (by decide +kernel)⟩
theorem lw_p37 : lw_okq (⟨"NoiseShaperModel", "weights", "()I"⟩, 35) := ⟨⟨by decide +kernel, by decide +kernel⟩, List.mem_of_getElem? (i := 982) (by decide +kernel), List.mem_of_getElem? (i := 1166) (by decide +kernel), List.mem_of_getElem? (i := 1167) (by decide +kernel)⟩
theorem lw_p38 : lw_okq (⟨"NoiseShaperModel", "weight", "(I)I"⟩, 35) := ⟨⟨by decide +kernel, by decide +kernel⟩, List.mem_of_getElem? (i := 982) (by decide +kernel), List.mem_of_getElem? (i := 1170) (by decide +kernel), List.mem_of_getElem? (i := 1171) (by decide +kernel)⟩
theorem lw_p39 : lw_okq (⟨"NoiseShaperModel", "needFor", "(I)I"⟩, 35) := ⟨⟨by decide +kernel, by decide +kernel⟩, List.mem_of_getElem? (i := 982) (by decide +kernel), List.mem_of_getElem? (i := 1174) (by decide +kernel), List.mem_of_getElem? (i := 1175) (by decide +kernel)⟩
theorem lw_p40 : lw_okq (⟨"NoiseShaperModel", "goes", "()V"⟩, 35) := ⟨⟨by decide +kernel, by decide +kernel⟩, List.mem_of_getElem? (i := 982) (by decide +kernel), List.mem_of_getElem? (i := 1200) (by decide +kernel), List.mem_of_getElem? (i := 1201) (by decide +kernel)⟩
theorem lw_p41 : lw_okq (⟨"NoiseShaperModel", "sourceAt", "(I)I"⟩, 35) := ⟨⟨by decide +kernel, by decide +kernel⟩, List.mem_of_getElem? (i := 982) (by decide +kernel), List.mem_of_getElem? (i := 1204) (by decide +kernel), List.mem_of_getElem? (i := 1205) (by decide +kernel)⟩
theorem lw_p42 : lw_okq (⟨"NoiseShaperModel", "tells", "(IJ)V"⟩, 35) := ⟨⟨by decide +kernel, by decide +kernel⟩, List.mem_of_getElem? (i := 982) (by decide +kernel), List.mem_of_getElem? (i := 1209) (by decide +kernel), List.mem_of_getElem? (i := 1210) (by decide +kernel)⟩
theorem lw_p43 : lw_okq (⟨"NoiseShaperModel", "drawn", "()I"⟩, 35) := ⟨⟨by decide +kernel, by decide +kernel⟩, List.mem_of_getElem? (i := 982) (by decide +kernel), List.mem_of_getElem? (i := 1213) (by decide +kernel), List.mem_of_getElem? (i := 1214) (by decide +kernel)⟩
theorem lw_p44 : lw_okq (⟨"NoiseShaperModel", "loops", "(II)I"⟩, 35) := ⟨⟨by decide +kernel, by decide +kernel⟩, List.mem_of_getElem? (i := 982) (by decide +kernel), List.mem_of_getElem? (i := 1221) (by decide +kernel), List.mem_of_getElem? (i := 1222) (by decide +kernel)⟩
theorem lw_p45 : lw_okq (⟨"NoiseShaperModel", "byErrors", "(II)I"⟩, 35) := ⟨⟨by decide +kernel, by decide +kernel⟩, List.mem_of_getElem? (i := 982) (by decide +kernel), List.mem_of_getElem? (i := 1225) (by decide +kernel), List.mem_of_getElem? (i := 1226) (by decide +kernel)⟩
theorem lw_p46 : lw_okq (⟨"NoiseShaperModel", "nearest", "(I)I"⟩, 35) := ⟨⟨by decide +kernel, by decide +kernel⟩, List.mem_of_getElem? (i := 982) (by decide +kernel), List.mem_of_getElem? (i := 1229) (by decide +kernel), List.mem_of_getElem? (i := 1230) (by decide +kernel)⟩
theorem lw_p47 : lw_okq (⟨"NoiseShaperModel", "valueOf", "(I)I"⟩, 35) := ⟨⟨by decide +kernel, by decide +kernel⟩, List.mem_of_getElem? (i := 982) (by decide +kernel), List.mem_of_getElem? (i := 1233) (by decide +kernel), List.mem_of_getElem? (i := 1234) (by decide +kernel)⟩
def lw_privs_3 : List (MethodName × Nat) := [(⟨"NoiseShaperModel", "beginsLoop", "()V"⟩, 35), (⟨"NoiseShaperModel", "beginsElements", "()V"⟩, 35), (⟨"NoiseShaperModel", "get", "(I)I"⟩, 35), (⟨"NoiseShaperModel", "gives", "(I)I"⟩, 35), (⟨"NoiseShaperModel", "elements", "()I"⟩, 35), (⟨"NoiseShaperModel", "weights", "()I"⟩, 35), (⟨"NoiseShaperModel", "weight", "(I)I"⟩, 35), (⟨"NoiseShaperModel", "needFor", "(I)I"⟩, 35), (⟨"NoiseShaperModel", "goes", "()V"⟩, 35), (⟨"NoiseShaperModel", "sourceAt", "(I)I"⟩, 35), (⟨"NoiseShaperModel", "tells", "(IJ)V"⟩, 35), (⟨"NoiseShaperModel", "drawn", "()I"⟩, 35), (⟨"NoiseShaperModel", "loops", "(II)I"⟩, 35), (⟨"NoiseShaperModel", "byErrors", "(II)I"⟩, 35), (⟨"NoiseShaperModel", "nearest", "(I)I"⟩, 35), (⟨"NoiseShaperModel", "valueOf", "(I)I"⟩, 35)]
theorem lw_r3 : ∀ q ∈ lw_privs_3, lw_okq q := List.forall_mem_cons.mpr ⟨lw_p32, List.forall_mem_cons.mpr ⟨lw_p33, List.forall_mem_cons.mpr ⟨lw_p34, List.forall_mem_cons.mpr ⟨lw_p35, List.forall_mem_cons.mpr ⟨lw_p36, List.forall_mem_cons.mpr ⟨lw_p37, List.forall_mem_cons.mpr ⟨lw_p38, List.forall_mem_cons.mpr ⟨lw_p39, List.forall_mem_cons.mpr ⟨lw_p40, List.forall_mem_cons.mpr ⟨lw_p41, List.forall_mem_cons.mpr ⟨lw_p42, List.forall_mem_cons.mpr ⟨lw_p43, List.forall_mem_cons.mpr ⟨lw_p44, List.forall_mem_cons.mpr ⟨lw_p45, List.forall_mem_cons.mpr ⟨lw_p46, List.forall_mem_cons.mpr ⟨lw_p47, fun _ h => absurd h List.not_mem_nil⟩⟩⟩⟩⟩⟩⟩⟩⟩⟩⟩⟩⟩⟩⟩⟩
theorem lw_p48 : lw_okq (⟨"NoiseShaperModel", "held", "(I)I"⟩, 35) := ⟨⟨by decide +kernel, by decide +kernel⟩, List.mem_of_getElem? (i := 982) (by decide +kernel), List.mem_of_getElem? (i := 1238) (by decide +kernel), List.mem_of_getElem? (i := 1239) (by decide +kernel)⟩
theorem lw_p49 : lw_okq (⟨"NoiseShaperModel", "bySums", "(II)I"⟩, 35) := ⟨⟨by decide +kernel, by decide +kernel⟩, List.mem_of_getElem? (i := 982) (by decide +kernel), List.mem_of_getElem? (i := 1242) (by decide +kernel), List.mem_of_getElem? (i := 1243) (by decide +kernel)⟩
theorem lw_p50 : lw_okq (⟨"NoiseShaperModel", "byCascade", "(II)I"⟩, 35) := ⟨⟨by decide +kernel, by decide +kernel⟩, List.mem_of_getElem? (i := 982) (by decide +kernel), List.mem_of_getElem? (i := 1246) (by decide +kernel), List.mem_of_getElem? (i := 1247) (by decide +kernel)⟩
theorem lw_p51 : lw_okq (⟨"NoiseShaperModel", "besides", "()I"⟩, 35) := ⟨⟨by decide +kernel, by decide +kernel⟩, List.mem_of_getElem? (i := 982) (by decide +kernel), List.mem_of_getElem? (i := 1250) (by decide +kernel), List.mem_of_getElem? (i := 1251) (by decide +kernel)⟩
theorem lw_p52 : lw_okq (⟨"NoiseShaperModel", "goesElements", "(I)I"⟩, 35) := ⟨⟨by decide +kernel, by decide +kernel⟩, List.mem_of_getElem? (i := 982) (by decide +kernel), List.mem_of_getElem? (i := 1256) (by decide +kernel), List.mem_of_getElem? (i := 1257) (by decide +kernel)⟩
theorem lw_p53 : lw_okq (⟨"NoiseShaperModel", "wouldBeOn", "(I)I"⟩, 35) := ⟨⟨by decide +kernel, by decide +kernel⟩, List.mem_of_getElem? (i := 982) (by decide +kernel), List.mem_of_getElem? (i := 1260) (by decide +kernel), List.mem_of_getElem? (i := 1261) (by decide +kernel)⟩
theorem lw_p54 : lw_okq (⟨"NoiseShaperModel", "combs", "(J)Z"⟩, 35) := ⟨⟨by decide +kernel, by decide +kernel⟩, List.mem_of_getElem? (i := 982) (by decide +kernel), List.mem_of_getElem? (i := 1273) (by decide +kernel), List.mem_of_getElem? (i := 1274) (by decide +kernel)⟩
theorem lw_p55 : lw_okq (⟨"NoiseShaperModel", "worded", "(J)J"⟩, 35) := ⟨⟨by decide +kernel, by decide +kernel⟩, List.mem_of_getElem? (i := 982) (by decide +kernel), List.mem_of_getElem? (i := 1277) (by decide +kernel), List.mem_of_getElem? (i := 1278) (by decide +kernel)⟩
theorem lw_p56 : lw_okq (⟨"NoiseShaperModel", "latestOf", "(II)J"⟩, 35) := ⟨⟨by decide +kernel, by decide +kernel⟩, List.mem_of_getElem? (i := 982) (by decide +kernel), List.mem_of_getElem? (i := 1281) (by decide +kernel), List.mem_of_getElem? (i := 1282) (by decide +kernel)⟩
theorem lw_p57 : lw_okq (⟨"NoiseShaperModel", "folds", "(IJ)Z"⟩, 35) := ⟨⟨by decide +kernel, by decide +kernel⟩, List.mem_of_getElem? (i := 982) (by decide +kernel), List.mem_of_getElem? (i := 1285) (by decide +kernel), List.mem_of_getElem? (i := 1286) (by decide +kernel)⟩
theorem lw_p58 : lw_okq (⟨"NoiseShaperModel", "tapMany", "(I)I"⟩, 35) := ⟨⟨by decide +kernel, by decide +kernel⟩, List.mem_of_getElem? (i := 982) (by decide +kernel), List.mem_of_getElem? (i := 1289) (by decide +kernel), List.mem_of_getElem? (i := 1290) (by decide +kernel)⟩
theorem lw_p59 : lw_okq (⟨"NoiseShaperModel", "tapOf", "(II)I"⟩, 35) := ⟨⟨by decide +kernel, by decide +kernel⟩, List.mem_of_getElem? (i := 982) (by decide +kernel), List.mem_of_getElem? (i := 1293) (by decide +kernel), List.mem_of_getElem? (i := 1294) (by decide +kernel)⟩
theorem lw_p60 : lw_okq (⟨"NoiseShaperModel", "shiftOf", "(I)I"⟩, 35) := ⟨⟨by decide +kernel, by decide +kernel⟩, List.mem_of_getElem? (i := 982) (by decide +kernel), List.mem_of_getElem? (i := 1297) (by decide +kernel), List.mem_of_getElem? (i := 1298) (by decide +kernel)⟩
theorem lw_p61 : lw_okq (⟨"NoiseShaperModel", "many", "(I)I"⟩, 35) := ⟨⟨by decide +kernel, by decide +kernel⟩, List.mem_of_getElem? (i := 982) (by decide +kernel), List.mem_of_getElem? (i := 1309) (by decide +kernel), List.mem_of_getElem? (i := 1310) (by decide +kernel)⟩
theorem lw_p62 : lw_okq (⟨"NoiseShaperModel", "givesLong", "(J)J"⟩, 35) := ⟨⟨by decide +kernel, by decide +kernel⟩, List.mem_of_getElem? (i := 982) (by decide +kernel), List.mem_of_getElem? (i := 1321) (by decide +kernel), List.mem_of_getElem? (i := 1322) (by decide +kernel)⟩
theorem lw_p63 : lw_okq (⟨"NoiseShaperModel", "spreadNow", "()I"⟩, 35) := ⟨⟨by decide +kernel, by decide +kernel⟩, List.mem_of_getElem? (i := 982) (by decide +kernel), List.mem_of_getElem? (i := 1345) (by decide +kernel), List.mem_of_getElem? (i := 1346) (by decide +kernel)⟩
def lw_privs_4 : List (MethodName × Nat) := [(⟨"NoiseShaperModel", "held", "(I)I"⟩, 35), (⟨"NoiseShaperModel", "bySums", "(II)I"⟩, 35), (⟨"NoiseShaperModel", "byCascade", "(II)I"⟩, 35), (⟨"NoiseShaperModel", "besides", "()I"⟩, 35), (⟨"NoiseShaperModel", "goesElements", "(I)I"⟩, 35), (⟨"NoiseShaperModel", "wouldBeOn", "(I)I"⟩, 35), (⟨"NoiseShaperModel", "combs", "(J)Z"⟩, 35), (⟨"NoiseShaperModel", "worded", "(J)J"⟩, 35), (⟨"NoiseShaperModel", "latestOf", "(II)J"⟩, 35), (⟨"NoiseShaperModel", "folds", "(IJ)Z"⟩, 35), (⟨"NoiseShaperModel", "tapMany", "(I)I"⟩, 35), (⟨"NoiseShaperModel", "tapOf", "(II)I"⟩, 35), (⟨"NoiseShaperModel", "shiftOf", "(I)I"⟩, 35), (⟨"NoiseShaperModel", "many", "(I)I"⟩, 35), (⟨"NoiseShaperModel", "givesLong", "(J)J"⟩, 35), (⟨"NoiseShaperModel", "spreadNow", "()I"⟩, 35)]
theorem lw_r4 : ∀ q ∈ lw_privs_4, lw_okq q := List.forall_mem_cons.mpr ⟨lw_p48, List.forall_mem_cons.mpr ⟨lw_p49, List.forall_mem_cons.mpr ⟨lw_p50, List.forall_mem_cons.mpr ⟨lw_p51, List.forall_mem_cons.mpr ⟨lw_p52, List.forall_mem_cons.mpr ⟨lw_p53, List.forall_mem_cons.mpr ⟨lw_p54, List.forall_mem_cons.mpr ⟨lw_p55, List.forall_mem_cons.mpr ⟨lw_p56, List.forall_mem_cons.mpr ⟨lw_p57, List.forall_mem_cons.mpr ⟨lw_p58, List.forall_mem_cons.mpr ⟨lw_p59, List.forall_mem_cons.mpr ⟨lw_p60, List.forall_mem_cons.mpr ⟨lw_p61, List.forall_mem_cons.mpr ⟨lw_p62, List.forall_mem_cons.mpr ⟨lw_p63, fun _ h => absurd h List.not_mem_nil⟩⟩⟩⟩⟩⟩⟩⟩⟩⟩⟩⟩⟩⟩⟩⟩
theorem lw_p64 : lw_okq (⟨"NoiseShaperModel", "unlikeNone", "(I)I"⟩, 35) := ⟨⟨by decide +kernel, by decide +kernel⟩, List.mem_of_getElem? (i := 982) (by decide +kernel), List.mem_of_getElem? (i := 1361) (by decide +kernel), List.mem_of_getElem? (i := 1362) (by decide +kernel)⟩
theorem lw_p65 : lw_okq (⟨"NoiseShaperModel", "beatOf", "(II)J"⟩, 35) := ⟨⟨by decide +kernel, by decide +kernel⟩, List.mem_of_getElem? (i := 982) (by decide +kernel), List.mem_of_getElem? (i := 1382) (by decide +kernel), List.mem_of_getElem? (i := 1383) (by decide +kernel)⟩
theorem lw_p66 : lw_okq (⟨"NoiseShaperModel", "asks", "(I)V"⟩, 35) := ⟨⟨by decide +kernel, by decide +kernel⟩, List.mem_of_getElem? (i := 982) (by decide +kernel), List.mem_of_getElem? (i := 1394) (by decide +kernel), List.mem_of_getElem? (i := 1395) (by decide +kernel)⟩
theorem lw_p67 : lw_okq (⟨"NoiseShaperModel", "tones", "(IZ)V"⟩, 35) := ⟨⟨by decide +kernel, by decide +kernel⟩, List.mem_of_getElem? (i := 982) (by decide +kernel), List.mem_of_getElem? (i := 1398) (by decide +kernel), List.mem_of_getElem? (i := 1399) (by decide +kernel)⟩
theorem lw_p68 : lw_okq (⟨"NoiseShaperModel", "lays", "(I)V"⟩, 35) := ⟨⟨by decide +kernel, by decide +kernel⟩, List.mem_of_getElem? (i := 982) (by decide +kernel), List.mem_of_getElem? (i := 1405) (by decide +kernel), List.mem_of_getElem? (i := 1406) (by decide +kernel)⟩
theorem lw_p69 : lw_okq (⟨"NoiseShaperModel", "isLike", "(II)Z"⟩, 35) := ⟨⟨by decide +kernel, by decide +kernel⟩, List.mem_of_getElem? (i := 982) (by decide +kernel), List.mem_of_getElem? (i := 1409) (by decide +kernel), List.mem_of_getElem? (i := 1410) (by decide +kernel)⟩
theorem lw_p70 : lw_okq (⟨"NoiseShaperModel", "ofPattern", "(I)I"⟩, 35) := ⟨⟨by decide +kernel, by decide +kernel⟩, List.mem_of_getElem? (i := 982) (by decide +kernel), List.mem_of_getElem? (i := 1413) (by decide +kernel), List.mem_of_getElem? (i := 1414) (by decide +kernel)⟩
theorem lw_p71 : lw_okq (⟨"NoiseShaperModel", "inPattern", "(I)I"⟩, 35) := ⟨⟨by decide +kernel, by decide +kernel⟩, List.mem_of_getElem? (i := 982) (by decide +kernel), List.mem_of_getElem? (i := 1417) (by decide +kernel), List.mem_of_getElem? (i := 1418) (by decide +kernel)⟩
theorem lw_p72 : lw_okq (⟨"NoiseShaperModel", "strained", "(II)I"⟩, 35) := ⟨⟨by decide +kernel, by decide +kernel⟩, List.mem_of_getElem? (i := 982) (by decide +kernel), List.mem_of_getElem? (i := 1445) (by decide +kernel), List.mem_of_getElem? (i := 1446) (by decide +kernel)⟩
def lw_privs_5 : List (MethodName × Nat) := [(⟨"NoiseShaperModel", "unlikeNone", "(I)I"⟩, 35), (⟨"NoiseShaperModel", "beatOf", "(II)J"⟩, 35), (⟨"NoiseShaperModel", "asks", "(I)V"⟩, 35), (⟨"NoiseShaperModel", "tones", "(IZ)V"⟩, 35), (⟨"NoiseShaperModel", "lays", "(I)V"⟩, 35), (⟨"NoiseShaperModel", "isLike", "(II)Z"⟩, 35), (⟨"NoiseShaperModel", "ofPattern", "(I)I"⟩, 35), (⟨"NoiseShaperModel", "inPattern", "(I)I"⟩, 35), (⟨"NoiseShaperModel", "strained", "(II)I"⟩, 35)]
theorem lw_r5 : ∀ q ∈ lw_privs_5, lw_okq q := List.forall_mem_cons.mpr ⟨lw_p64, List.forall_mem_cons.mpr ⟨lw_p65, List.forall_mem_cons.mpr ⟨lw_p66, List.forall_mem_cons.mpr ⟨lw_p67, List.forall_mem_cons.mpr ⟨lw_p68, List.forall_mem_cons.mpr ⟨lw_p69, List.forall_mem_cons.mpr ⟨lw_p70, List.forall_mem_cons.mpr ⟨lw_p71, List.forall_mem_cons.mpr ⟨lw_p72, fun _ h => absurd h List.not_mem_nil⟩⟩⟩⟩⟩⟩⟩⟩⟩
def lw_privs : List (MethodName × Nat) := lw_privs_1 ++ (lw_privs_2 ++ (lw_privs_3 ++ (lw_privs_4 ++ (lw_privs_5))))
def lw_tbl : List Cond := k2_sels lw_privs ++ tables_1
theorem lw_privs_ok : ∀ q ∈ lw_privs, lw_okq q := by
  show ∀ q ∈ lw_privs_1 ++ (lw_privs_2 ++ (lw_privs_3 ++ (lw_privs_4 ++ (lw_privs_5)))), lw_okq q
  exact List.forall_mem_append.mpr ⟨lw_r1, List.forall_mem_append.mpr ⟨lw_r2, List.forall_mem_append.mpr ⟨lw_r3, List.forall_mem_append.mpr ⟨lw_r4, lw_r5⟩⟩⟩⟩
def RX0 : String := "NoiseShaper$Asked"
def TX0 : u_T := fun k => match k with
  | 0 => ("NoiseShaper$Asked", "numbers", "[I", true)
  | _ => ("NoiseShaper$Asked", "many", "I", false)
def tyX0 : Nat → FieldType := fun k => match k with
  | 0 => .array .int
  | _ => .int
abbrev wsX00 : List Cond := u_ws RX0 TX0 2
theorem nmX0 : ∀ a, a < 2 → ∀ b, b < 2 → a ≠ b → (TX0 a).2.1 ≠ (TX0 b).2.1 := by decide +kernel
theorem tyX0_ok : ∀ k, k < 2 → parseFieldDescriptor (TX0 k).2.2.1 = some (tyX0 k) := by decide +kernel
abbrev cX0_init : ByteArray := prog_2_method_1_code
def yX0_init : MethodName := ⟨RX0, "<init>", "()V"⟩
abbrev cX0_forget : ByteArray := prog_2_method_2_code
def yX0_forget : MethodName := ⟨RX0, "forget", "()V"⟩
abbrev cX0_add : ByteArray := prog_2_method_3_code
def yX0_add : MethodName := ⟨RX0, "add", "(I)V"⟩
def RX1 : String := "NoiseShaper$Comb"
def TX1 : u_T := fun k => match k with
  | 0 => ("NoiseShaper$Comb", "order", "I", false)
  | 1 => ("NoiseShaper$Comb", "ratio", "I", false)
  | 2 => ("NoiseShaper$Comb", "width", "I", false)
  | 3 => ("NoiseShaper$Comb", "in", "I", false)
  | 4 => ("NoiseShaper$Comb", "sums", "[J", true)
  | 5 => ("NoiseShaper$Comb", "before", "[J", true)
  | 6 => ("NoiseShaper$Comb", "waited", "I", false)
  | 7 => ("NoiseShaper$Comb", "wrongs", "I", false)
  | 8 => ("NoiseShaper$Comb", "truth", "J", false)
  | _ => ("NoiseShaper$Comb", "answers", "[I", true)
def tyX1 : Nat → FieldType := fun k => match k with
  | 0 => .int
  | 1 => .int
  | 2 => .int
  | 3 => .int
  | 4 => .array .long
  | 5 => .array .long
  | 6 => .int
  | 7 => .int
  | 8 => .long
  | _ => .array .int
abbrev wsX10 : List Cond := u_ws RX1 TX1 10
theorem nmX1 : ∀ a, a < 10 → ∀ b, b < 10 → a ≠ b → (TX1 a).2.1 ≠ (TX1 b).2.1 := by decide +kernel
theorem tyX1_ok : ∀ k, k < 10 → parseFieldDescriptor (TX1 k).2.2.1 = some (tyX1 k) := by decide +kernel
abbrev cX1_init : ByteArray := prog_3_method_1_code
def yX1_init : MethodName := ⟨RX1, "<init>", "()V"⟩
abbrev cX1_begin : ByteArray := prog_3_method_2_code
def yX1_begin : MethodName := ⟨RX1, "begin", "()V"⟩
abbrev cX1_take : ByteArray := prog_3_method_3_code
def yX1_take : MethodName := ⟨RX1, "take", "(I)Z"⟩
abbrev cX1_number : ByteArray := prog_3_method_4_code
def yX1_number : MethodName := ⟨RX1, "number", "()I"⟩
abbrev cX1_cut : ByteArray := prog_3_method_5_code
def yX1_cut : MethodName := ⟨RX1, "cut", "(J)I"⟩
abbrev cX1_leastWidth : ByteArray := prog_3_method_6_code
def yX1_leastWidth : MethodName := ⟨RX1, "leastWidth", "(I)I"⟩
abbrev cX1_lastOfResponse : ByteArray := prog_3_method_7_code
def yX1_lastOfResponse : MethodName := ⟨RX1, "lastOfResponse", "()I"⟩
abbrev cX1_responseAt : ByteArray := prog_3_method_8_code
def yX1_responseAt : MethodName := ⟨RX1, "responseAt", "(I)I"⟩
abbrev cX1_foldByOnes : ByteArray := prog_3_method_9_code
def yX1_foldByOnes : MethodName := ⟨RX1, "foldByOnes", "()V"⟩
def RX2 : String := "NoiseShaper$Elements"
def TX2 : u_T := fun k => match k with
  | 0 => ("NoiseShaper$Elements", "many", "I", false)
  | 1 => ("NoiseShaper$Elements", "way", "I", false)
  | 2 => ("NoiseShaper$Elements", "pointer", "I", false)
  | 3 => ("NoiseShaper$Elements", "on", "I", false)
  | 4 => ("NoiseShaper$Elements", "deviations", "[I", true)
  | 5 => ("NoiseShaper$Elements", "used", "[I", true)
  | 6 => ("NoiseShaper$Elements", "debts", "[I", true)
  | 7 => ("NoiseShaper$Elements", "debtSums", "[I", true)
  | 8 => ("NoiseShaper$Elements", "drift", "J", false)
  | 9 => ("NoiseShaper$Elements", "greatestDrift", "J", false)
  | _ => ("NoiseShaper$Elements", "analogSum", "J", false)
def tyX2 : Nat → FieldType := fun k => match k with
  | 0 => .int
  | 1 => .int
  | 2 => .int
  | 3 => .int
  | 4 => .array .int
  | 5 => .array .int
  | 6 => .array .int
  | 7 => .array .int
  | 8 => .long
  | 9 => .long
  | _ => .long
abbrev wsX20 : List Cond := u_ws RX2 TX2 11
theorem nmX2 : ∀ a, a < 11 → ∀ b, b < 11 → a ≠ b → (TX2 a).2.1 ≠ (TX2 b).2.1 := by decide +kernel
theorem tyX2_ok : ∀ k, k < 11 → parseFieldDescriptor (TX2 k).2.2.1 = some (tyX2 k) := by decide +kernel
abbrev cX2_init : ByteArray := prog_4_method_1_code
def yX2_init : MethodName := ⟨RX2, "<init>", "()V"⟩
abbrev cX2_begin : ByteArray := prog_4_method_2_code
def yX2_begin : MethodName := ⟨RX2, "begin", "()V"⟩
abbrev cX2_beginLike : ByteArray := prog_4_method_3_code
def yX2_beginLike : MethodName := ⟨RX2, "beginLike", "(LNoiseShaper$Elements;I)V"⟩
abbrev cX2_weight : ByteArray := prog_4_method_4_code
def yX2_weight : MethodName := ⟨RX2, "weight", "(I)I"⟩
abbrev cX2_allWeights : ByteArray := prog_4_method_5_code
def yX2_allWeights : MethodName := ⟨RX2, "allWeights", "()I"⟩
abbrev cX2_unevenness : ByteArray := prog_4_method_6_code
def yX2_unevenness : MethodName := ⟨RX2, "unevenness", "()I"⟩
abbrev cX2_take : ByteArray := prog_4_method_7_code
def yX2_take : MethodName := ⟨RX2, "take", "(I)I"⟩
abbrev cX2_choose : ByteArray := prog_4_method_8_code
def yX2_choose : MethodName := ⟨RX2, "choose", "(I)I"⟩
abbrev cX2_chooseRotated : ByteArray := prog_4_method_9_code
def yX2_chooseRotated : MethodName := ⟨RX2, "chooseRotated", "(I)I"⟩
abbrev cX2_chooseTwice : ByteArray := prog_4_method_10_code
def yX2_chooseTwice : MethodName := ⟨RX2, "chooseTwice", "(I)I"⟩
abbrev cX2_mostDue : ByteArray := prog_4_method_11_code
def yX2_mostDue : MethodName := ⟨RX2, "mostDue", "(I)I"⟩
abbrev cX2_runUpDebts : ByteArray := prog_4_method_12_code
def yX2_runUpDebts : MethodName := ⟨RX2, "runUpDebts", "(I)V"⟩
abbrev cX2_weightsOf : ByteArray := prog_4_method_13_code
def yX2_weightsOf : MethodName := ⟨RX2, "weightsOf", "(I)I"⟩
def RX3 : String := "NoiseShaper$Fold"
def TX3 : u_T := fun k => match k with
  | 0 => ("NoiseShaper$Fold", "taps", "I", false)
  | 1 => ("NoiseShaper$Fold", "cells", "[I", true)
  | 2 => ("NoiseShaper$Fold", "at", "I", false)
  | _ => ("NoiseShaper$Fold", "isSecond", "Z", false)
def tyX3 : Nat → FieldType := fun k => match k with
  | 0 => .int
  | 1 => .array .int
  | 2 => .int
  | _ => .boolean
abbrev wsX30 : List Cond := u_ws RX3 TX3 4
theorem nmX3 : ∀ a, a < 4 → ∀ b, b < 4 → a ≠ b → (TX3 a).2.1 ≠ (TX3 b).2.1 := by decide +kernel
theorem tyX3_ok : ∀ k, k < 4 → parseFieldDescriptor (TX3 k).2.2.1 = some (tyX3 k) := by decide +kernel
abbrev cX3_init : ByteArray := prog_5_method_1_code
def yX3_init : MethodName := ⟨RX3, "<init>", "()V"⟩
abbrev cX3_begin : ByteArray := prog_5_method_2_code
def yX3_begin : MethodName := ⟨RX3, "begin", "()V"⟩
abbrev cX3_take : ByteArray := prog_5_method_3_code
def yX3_take : MethodName := ⟨RX3, "take", "(I)Z"⟩
abbrev cX3_number : ByteArray := prog_5_method_4_code
def yX3_number : MethodName := ⟨RX3, "number", "(LNoiseShaper$Taps;)I"⟩
def RX4 : String := "NoiseShaper$Latest"
def TX4 : u_T := fun k => match k with
  | 0 => ("NoiseShaper$Latest", "cells", "[I", true)
  | 1 => ("NoiseShaper$Latest", "at", "I", false)
  | 2 => ("NoiseShaper$Latest", "kept", "I", false)
  | _ => ("NoiseShaper$Latest", "count", "I", false)
def tyX4 : Nat → FieldType := fun k => match k with
  | 0 => .array .int
  | 1 => .int
  | 2 => .int
  | _ => .int
abbrev wsX40 : List Cond := u_ws RX4 TX4 4
theorem nmX4 : ∀ a, a < 4 → ∀ b, b < 4 → a ≠ b → (TX4 a).2.1 ≠ (TX4 b).2.1 := by decide +kernel
theorem tyX4_ok : ∀ k, k < 4 → parseFieldDescriptor (TX4 k).2.2.1 = some (tyX4 k) := by decide +kernel
abbrev cX4_init : ByteArray := prog_6_method_1_code
def yX4_init : MethodName := ⟨RX4, "<init>", "()V"⟩
abbrev cX4_clear : ByteArray := prog_6_method_2_code
def yX4_clear : MethodName := ⟨RX4, "clear", "()V"⟩
abbrev cX4_put : ByteArray := prog_6_method_3_code
def yX4_put : MethodName := ⟨RX4, "put", "(I)V"⟩
abbrev cX4_get : ByteArray := prog_6_method_4_code
def yX4_get : MethodName := ⟨RX4, "get", "(I)I"⟩
abbrev cX4_least : ByteArray := prog_6_method_5_code
def yX4_least : MethodName := ⟨RX4, "least", "()I"⟩
abbrev cX4_greatest : ByteArray := prog_6_method_6_code
def yX4_greatest : MethodName := ⟨RX4, "greatest", "()I"⟩
abbrev cX4_total : ByteArray := prog_6_method_7_code
def yX4_total : MethodName := ⟨RX4, "total", "()J"⟩
abbrev cX4_nearLatest : ByteArray := prog_6_method_8_code
def yX4_nearLatest : MethodName := ⟨RX4, "nearLatest", "(I)I"⟩
abbrev cX4_beatOf : ByteArray := prog_6_method_9_code
def yX4_beatOf : MethodName := ⟨RX4, "beatOf", "(I)J"⟩
abbrev cX4_greatestBeat : ByteArray := prog_6_method_10_code
def yX4_greatestBeat : MethodName := ⟨RX4, "greatestBeat", "(II)I"⟩
def RX5 : String := "NoiseShaper$Loop"
def TX5 : u_T := fun k => match k with
  | 0 => ("NoiseShaper$Loop", "plan", "LNoiseShaper$LoopPlan;", true)
  | 1 => ("NoiseShaper$Loop", "states", "[I", true)
  | 2 => ("NoiseShaper$Loop", "past", "[I", true)
  | 3 => ("NoiseShaper$Loop", "value", "I", false)
  | 4 => ("NoiseShaper$Loop", "x", "I", false)
  | 5 => ("NoiseShaper$Loop", "hits", "I", false)
  | 6 => ("NoiseShaper$Loop", "hitClocks", "I", false)
  | 7 => ("NoiseShaper$Loop", "hit", "Z", false)
  | 8 => ("NoiseShaper$Loop", "greatestHeld", "I", false)
  | 9 => ("NoiseShaper$Loop", "sourceSum", "J", false)
  | 10 => ("NoiseShaper$Loop", "valueSum", "J", false)
  | 11 => ("NoiseShaper$Loop", "outSum", "J", false)
  | 12 => ("NoiseShaper$Loop", "lost", "J", false)
  | _ => ("NoiseShaper$Loop", "greatestGap", "J", false)
def tyX5 : Nat → FieldType := fun k => match k with
  | 0 => .object "NoiseShaper$LoopPlan"
  | 1 => .array .int
  | 2 => .array .int
  | 3 => .int
  | 4 => .int
  | 5 => .int
  | 6 => .int
  | 7 => .boolean
  | 8 => .int
  | 9 => .long
  | 10 => .long
  | 11 => .long
  | 12 => .long
  | _ => .long
abbrev wsX50 : List Cond := u_ws RX5 TX5 14
theorem nmX5 : ∀ a, a < 14 → ∀ b, b < 14 → a ≠ b → (TX5 a).2.1 ≠ (TX5 b).2.1 := by decide +kernel
theorem tyX5_ok : ∀ k, k < 14 → parseFieldDescriptor (TX5 k).2.2.1 = some (tyX5 k) := by decide +kernel
abbrev cX5_init : ByteArray := prog_7_method_1_code
def yX5_init : MethodName := ⟨RX5, "<init>", "()V"⟩
abbrev cX5_begin : ByteArray := prog_7_method_2_code
def yX5_begin : MethodName := ⟨RX5, "begin", "()V"⟩
abbrev cX5_beginTone : ByteArray := prog_7_method_3_code
def yX5_beginTone : MethodName := ⟨RX5, "beginTone", "(LNoiseShaper$LoopPlan;)V"⟩
abbrev cX5_copyFrom : ByteArray := prog_7_method_4_code
def yX5_copyFrom : MethodName := ⟨RX5, "copyFrom", "(LNoiseShaper$Loop;)V"⟩
abbrev cX5_gapNow : ByteArray := prog_7_method_5_code
def yX5_gapNow : MethodName := ⟨RX5, "gapNow", "()J"⟩
abbrev cX5_advance : ByteArray := prog_7_method_6_code
def yX5_advance : MethodName := ⟨RX5, "advance", "(I)I"⟩
abbrev cX5_writeWords : ByteArray := prog_7_method_7_code
def yX5_writeWords : MethodName := ⟨RX5, "writeWords", "([II)V"⟩
abbrev cX5_outOf : ByteArray := prog_7_method_8_code
def yX5_outOf : MethodName := ⟨RX5, "outOf", "(I)I"⟩
abbrev cX5_outOfErrors : ByteArray := prog_7_method_9_code
def yX5_outOfErrors : MethodName := ⟨RX5, "outOfErrors", "(II)I"⟩
abbrev cX5_shapedErrors : ByteArray := prog_7_method_10_code
def yX5_shapedErrors : MethodName := ⟨RX5, "shapedErrors", "()I"⟩
abbrev cX5_outOfSums : ByteArray := prog_7_method_11_code
def yX5_outOfSums : MethodName := ⟨RX5, "outOfSums", "(II)I"⟩
abbrev cX5_outOfCascade : ByteArray := prog_7_method_12_code
def yX5_outOfCascade : MethodName := ⟨RX5, "outOfCascade", "(II)I"⟩
abbrev cX5_differenceOf : ByteArray := prog_7_method_13_code
def yX5_differenceOf : MethodName := ⟨RX5, "differenceOf", "(II)I"⟩
abbrev cX5_hold : ByteArray := prog_7_method_14_code
def yX5_hold : MethodName := ⟨RX5, "hold", "(I)I"⟩
abbrev cX5_drawDither : ByteArray := prog_7_method_15_code
def yX5_drawDither : MethodName := ⟨RX5, "drawDither", "()I"⟩
def RX6 : String := "NoiseShaper$LoopPlan"
def TX6 : u_T := fun k => match k with
  | 0 => ("NoiseShaper$LoopPlan", "kind", "I", false)
  | 1 => ("NoiseShaper$LoopPlan", "order", "I", false)
  | 2 => ("NoiseShaper$LoopPlan", "step", "I", false)
  | 3 => ("NoiseShaper$LoopPlan", "levels", "I", false)
  | 4 => ("NoiseShaper$LoopPlan", "limit", "I", false)
  | 5 => ("NoiseShaper$LoopPlan", "calm", "Z", false)
  | 6 => ("NoiseShaper$LoopPlan", "dither", "I", false)
  | _ => ("NoiseShaper$LoopPlan", "seed", "I", false)
def tyX6 : Nat → FieldType := fun k => match k with
  | 0 => .int
  | 1 => .int
  | 2 => .int
  | 3 => .int
  | 4 => .int
  | 5 => .boolean
  | 6 => .int
  | _ => .int
abbrev wsX60 : List Cond := u_ws RX6 TX6 8
theorem nmX6 : ∀ a, a < 8 → ∀ b, b < 8 → a ≠ b → (TX6 a).2.1 ≠ (TX6 b).2.1 := by decide +kernel
theorem tyX6_ok : ∀ k, k < 8 → parseFieldDescriptor (TX6 k).2.2.1 = some (tyX6 k) := by decide +kernel
abbrev cX6_init : ByteArray := prog_8_method_1_code
def yX6_init : MethodName := ⟨RX6, "<init>", "()V"⟩
abbrev cX6_copyFrom : ByteArray := prog_8_method_2_code
def yX6_copyFrom : MethodName := ⟨RX6, "copyFrom", "(LNoiseShaper$LoopPlan;)V"⟩
abbrev cX6_elementsOf : ByteArray := prog_8_method_3_code
def yX6_elementsOf : MethodName := ⟨RX6, "elementsOf", "(III)I"⟩
abbrev cX6_besides : ByteArray := prog_8_method_4_code
def yX6_besides : MethodName := ⟨RX6, "besides", "()I"⟩
abbrev cX6_valueOf : ByteArray := prog_8_method_5_code
def yX6_valueOf : MethodName := ⟨RX6, "valueOf", "(I)I"⟩
abbrev cX6_valueOfSmall : ByteArray := prog_8_method_6_code
def yX6_valueOfSmall : MethodName := ⟨RX6, "valueOfSmall", "(I)I"⟩
abbrev cX6_nearest : ByteArray := prog_8_method_7_code
def yX6_nearest : MethodName := ⟨RX6, "nearest", "(I)I"⟩
def RX7 : String := "NoiseShaper$Source"
def TX7 : u_T := fun k => match k with
  | 0 => ("NoiseShaper$Source", "kind", "I", false)
  | 1 => ("NoiseShaper$Source", "a", "I", false)
  | 2 => ("NoiseShaper$Source", "b", "I", false)
  | 3 => ("NoiseShaper$Source", "c", "I", false)
  | _ => ("NoiseShaper$Source", "samples", "[I", true)
def tyX7 : Nat → FieldType := fun k => match k with
  | 0 => .int
  | 1 => .int
  | 2 => .int
  | 3 => .int
  | _ => .array .int
abbrev wsX70 : List Cond := u_ws RX7 TX7 5
theorem nmX7 : ∀ a, a < 5 → ∀ b, b < 5 → a ≠ b → (TX7 a).2.1 ≠ (TX7 b).2.1 := by decide +kernel
theorem tyX7_ok : ∀ k, k < 5 → parseFieldDescriptor (TX7 k).2.2.1 = some (tyX7 k) := by decide +kernel
abbrev cX7_init : ByteArray := prog_9_method_1_code
def yX7_init : MethodName := ⟨RX7, "<init>", "()V"⟩
abbrev cX7_numberAt : ByteArray := prog_9_method_2_code
def yX7_numberAt : MethodName := ⟨RX7, "numberAt", "(I)I"⟩
abbrev cX7_numberUnbound : ByteArray := prog_9_method_3_code
def yX7_numberUnbound : MethodName := ⟨RX7, "numberUnbound", "(I)I"⟩
def RX8 : String := "NoiseShaper$Taps"
def TX8 : u_T := fun k => match k with
  | 0 => ("NoiseShaper$Taps", "toldTaps", "[I", true)
  | _ => ("NoiseShaper$Taps", "toldShift", "I", false)
def tyX8 : Nat → FieldType := fun k => match k with
  | 0 => .array .int
  | _ => .int
abbrev wsX80 : List Cond := u_ws RX8 TX8 2
theorem nmX8 : ∀ a, a < 2 → ∀ b, b < 2 → a ≠ b → (TX8 a).2.1 ≠ (TX8 b).2.1 := by decide +kernel
theorem tyX8_ok : ∀ k, k < 2 → parseFieldDescriptor (TX8 k).2.2.1 = some (tyX8 k) := by decide +kernel
abbrev cX8_init : ByteArray := prog_10_method_1_code
def yX8_init : MethodName := ⟨RX8, "<init>", "()V"⟩
abbrev cX8_isKind : ByteArray := prog_10_method_2_code
def yX8_isKind : MethodName := ⟨RX8, "isKind", "(I)Z"⟩
abbrev cX8_tell : ByteArray := prog_10_method_3_code
def yX8_tell : MethodName := ⟨RX8, "tell", "(IIIII)V"⟩
abbrev cX8_rowOf : ByteArray := prog_10_method_4_code
def yX8_rowOf : MethodName := ⟨RX8, "rowOf", "(I)[I"⟩
abbrev cX8_shiftOf : ByteArray := prog_10_method_5_code
def yX8_shiftOf : MethodName := ⟨RX8, "shiftOf", "(I)I"⟩
abbrev cX8_sumOf : ByteArray := prog_10_method_6_code
def yX8_sumOf : MethodName := ⟨RX8, "sumOf", "(I)I"⟩
abbrev cX8_isHalfBand : ByteArray := prog_10_method_7_code
def yX8_isHalfBand : MethodName := ⟨RX8, "isHalfBand", "(I)Z"⟩
abbrev cX8_plainOf : ByteArray := prog_10_method_8_code
def yX8_plainOf : MethodName := ⟨RX8, "plainOf", "(I)I"⟩
abbrev cX8_foldedOf : ByteArray := prog_10_method_9_code
def yX8_foldedOf : MethodName := ⟨RX8, "foldedOf", "(I)I"⟩
abbrev cX8_manyOf : ByteArray := prog_10_method_10_code
def yX8_manyOf : MethodName := ⟨RX8, "manyOf", "(II)I"⟩
def RX9 : String := "NoiseShaper$Tone"
def TX9 : u_T := fun k => match k with
  | 0 => ("NoiseShaper$Tone", "outs", "[I", true)
  | 1 => ("NoiseShaper$Tone", "states", "[I", true)
  | 2 => ("NoiseShaper$Tone", "cells", "[I", true)
  | 3 => ("NoiseShaper$Tone", "comesRound", "Z", false)
  | 4 => ("NoiseShaper$Tone", "lead", "I", false)
  | _ => ("NoiseShaper$Tone", "period", "I", false)
def tyX9 : Nat → FieldType := fun k => match k with
  | 0 => .array .int
  | 1 => .array .int
  | 2 => .array .int
  | 3 => .boolean
  | 4 => .int
  | _ => .int
abbrev wsX90 : List Cond := u_ws RX9 TX9 6
theorem nmX9 : ∀ a, a < 6 → ∀ b, b < 6 → a ≠ b → (TX9 a).2.1 ≠ (TX9 b).2.1 := by decide +kernel
theorem tyX9_ok : ∀ k, k < 6 → parseFieldDescriptor (TX9 k).2.2.1 = some (tyX9 k) := by decide +kernel
abbrev cX9_init : ByteArray := prog_11_method_1_code
def yX9_init : MethodName := ⟨RX9, "<init>", "()V"⟩
abbrev cX9_follow : ByteArray := prog_11_method_2_code
def yX9_follow : MethodName := ⟨RX9, "follow", "(LNoiseShaper$Loop;LNoiseShaper$LoopPlan;I)V"⟩
abbrev cX9_total : ByteArray := prog_11_method_3_code
def yX9_total : MethodName := ⟨RX9, "total", "()I"⟩
abbrev cX9_unlike : ByteArray := prog_11_method_4_code
def yX9_unlike : MethodName := ⟨RX9, "unlike", "()I"⟩
abbrev cX9_changes : ByteArray := prog_11_method_5_code
def yX9_changes : MethodName := ⟨RX9, "changes", "()I"⟩
abbrev cX9_longestRun : ByteArray := prog_11_method_6_code
def yX9_longestRun : MethodName := ⟨RX9, "longestRun", "()I"⟩
abbrev cX9_patternAt : ByteArray := prog_11_method_7_code
def yX9_patternAt : MethodName := ⟨RX9, "patternAt", "(I)I"⟩
abbrev cX9_findOrPut : ByteArray := prog_11_method_8_code
def yX9_findOrPut : MethodName := ⟨RX9, "findOrPut", "(I)I"⟩
abbrev cX9_cellOf : ByteArray := prog_11_method_9_code
def yX9_cellOf : MethodName := ⟨RX9, "cellOf", "(I)I"⟩
abbrev cX9_isSame : ByteArray := prog_11_method_10_code
def yX9_isSame : MethodName := ⟨RX9, "isSame", "(II)Z"⟩
def RX10 : String := "NoiseShaper"
def TX10 : u_T := fun k => match k with
  | 0 => ("NoiseShaper", "status", "I", false)
  | 1 => ("NoiseShaper", "clock", "I", false)
  | 2 => ("NoiseShaper", "manyFolds", "I", false)
  | 3 => ("NoiseShaper", "source", "LNoiseShaper$Source;", true)
  | 4 => ("NoiseShaper", "loop", "LNoiseShaper$Loop;", true)
  | 5 => ("NoiseShaper", "elements", "LNoiseShaper$Elements;", true)
  | 6 => ("NoiseShaper", "comb", "LNoiseShaper$Comb;", true)
  | 7 => ("NoiseShaper", "taps", "LNoiseShaper$Taps;", true)
  | 8 => ("NoiseShaper", "folds", "[LNoiseShaper$Fold;", true)
  | 9 => ("NoiseShaper", "latest", "[LNoiseShaper$Latest;", true)
  | 10 => ("NoiseShaper", "asked", "LNoiseShaper$Asked;", true)
  | 11 => ("NoiseShaper", "paperLoop", "LNoiseShaper$Loop;", true)
  | 12 => ("NoiseShaper", "paperElements", "LNoiseShaper$Elements;", true)
  | _ => ("NoiseShaper", "tone", "LNoiseShaper$Tone;", true)
def tyX10 : Nat → FieldType := fun k => match k with
  | 0 => .int
  | 1 => .int
  | 2 => .int
  | 3 => .object "NoiseShaper$Source"
  | 4 => .object "NoiseShaper$Loop"
  | 5 => .object "NoiseShaper$Elements"
  | 6 => .object "NoiseShaper$Comb"
  | 7 => .object "NoiseShaper$Taps"
  | 8 => .array (.object "NoiseShaper$Fold")
  | 9 => .array (.object "NoiseShaper$Latest")
  | 10 => .object "NoiseShaper$Asked"
  | 11 => .object "NoiseShaper$Loop"
  | 12 => .object "NoiseShaper$Elements"
  | _ => .object "NoiseShaper$Tone"
abbrev wsX100 : List Cond := u_ws RX10 TX10 14
theorem nmX10 : ∀ a, a < 14 → ∀ b, b < 14 → a ≠ b → (TX10 a).2.1 ≠ (TX10 b).2.1 := by decide +kernel
theorem tyX10_ok : ∀ k, k < 14 → parseFieldDescriptor (TX10 k).2.2.1 = some (tyX10 k) := by decide +kernel
abbrev cX10_init : ByteArray := prog_1_method_1_code
def yX10_init : MethodName := ⟨RX10, "<init>", "()V"⟩
abbrev cX10_status : ByteArray := prog_1_method_2_code
def yX10_status : MethodName := ⟨RX10, "status", "()I"⟩
abbrev cX10_source : ByteArray := prog_1_method_3_code
def yX10_source : MethodName := ⟨RX10, "source", "(IIII)I"⟩
abbrev cX10_sample : ByteArray := prog_1_method_4_code
def yX10_sample : MethodName := ⟨RX10, "sample", "(II)I"⟩
abbrev cX10_loop : ByteArray := prog_1_method_5_code
def yX10_loop : MethodName := ⟨RX10, "loop", "(IIIIIZ)I"⟩
abbrev cX10_dither : ByteArray := prog_1_method_6_code
def yX10_dither : MethodName := ⟨RX10, "dither", "(II)I"⟩
abbrev cX10_way : ByteArray := prog_1_method_7_code
def yX10_way : MethodName := ⟨RX10, "way", "(I)I"⟩
abbrev cX10_deviation : ByteArray := prog_1_method_8_code
def yX10_deviation : MethodName := ⟨RX10, "deviation", "(II)I"⟩
abbrev cX10_comb : ByteArray := prog_1_method_9_code
def yX10_comb : MethodName := ⟨RX10, "comb", "(IIII)I"⟩
abbrev cX10_taps : ByteArray := prog_1_method_10_code
def yX10_taps : MethodName := ⟨RX10, "taps", "(IIIII)I"⟩
abbrev cX10_folds : ByteArray := prog_1_method_11_code
def yX10_folds : MethodName := ⟨RX10, "folds", "(IIII)I"⟩
abbrev cX10_anew : ByteArray := prog_1_method_12_code
def yX10_anew : MethodName := ⟨RX10, "anew", "(I)I"⟩
abbrev cX10_clocks : ByteArray := prog_1_method_13_code
def yX10_clocks : MethodName := ⟨RX10, "clocks", "(I)I"⟩
abbrev cX10_told : ByteArray := prog_1_method_14_code
def yX10_told : MethodName := ⟨RX10, "told", "(I)I"⟩
abbrev cX10_latest : ByteArray := prog_1_method_15_code
def yX10_latest : MethodName := ⟨RX10, "latest", "(II)I"⟩
abbrev cX10_state : ByteArray := prog_1_method_16_code
def yX10_state : MethodName := ⟨RX10, "state", "(I)I"⟩
abbrev cX10_sum : ByteArray := prog_1_method_17_code
def yX10_sum : MethodName := ⟨RX10, "sum", "(I)J"⟩
abbrev cX10_gap : ByteArray := prog_1_method_18_code
def yX10_gap : MethodName := ⟨RX10, "gap", "(II)J"⟩
abbrev cX10_range : ByteArray := prog_1_method_19_code
def yX10_range : MethodName := ⟨RX10, "range", "(II)J"⟩
abbrev cX10_steady : ByteArray := prog_1_method_20_code
def yX10_steady : MethodName := ⟨RX10, "steady", "(II)I"⟩
abbrev cX10_element : ByteArray := prog_1_method_21_code
def yX10_element : MethodName := ⟨RX10, "element", "(II)I"⟩
abbrev cX10_spread : ByteArray := prog_1_method_22_code
def yX10_spread : MethodName := ⟨RX10, "spread", "()I"⟩
abbrev cX10_combed : ByteArray := prog_1_method_23_code
def yX10_combed : MethodName := ⟨RX10, "combed", "(I)I"⟩
abbrev cX10_wrong : ByteArray := prog_1_method_24_code
def yX10_wrong : MethodName := ⟨RX10, "wrong", "(I)J"⟩
abbrev cX10_work : ByteArray := prog_1_method_25_code
def yX10_work : MethodName := ⟨RX10, "work", "(II)I"⟩
abbrev cX10_need : ByteArray := prog_1_method_26_code
def yX10_need : MethodName := ⟨RX10, "need", "(I)I"⟩
abbrev cX10_response : ByteArray := prog_1_method_27_code
def yX10_response : MethodName := ⟨RX10, "response", "(I)I"⟩
abbrev cX10_half : ByteArray := prog_1_method_28_code
def yX10_half : MethodName := ⟨RX10, "half", "(II)I"⟩
abbrev cX10_beat : ByteArray := prog_1_method_29_code
def yX10_beat : MethodName := ⟨RX10, "beat", "(II)J"⟩
abbrev cX10_tonal : ByteArray := prog_1_method_30_code
def yX10_tonal : MethodName := ⟨RX10, "tonal", "(I)I"⟩
abbrev cX10_tone : ByteArray := prog_1_method_31_code
def yX10_tone : MethodName := ⟨RX10, "tone", "(II)I"⟩
abbrev cX10_out : ByteArray := prog_1_method_32_code
def yX10_out : MethodName := ⟨RX10, "out", "(II)I"⟩
abbrev cX10_asked : ByteArray := prog_1_method_33_code
def yX10_asked : MethodName := ⟨RX10, "asked", "(I)I"⟩
abbrev cX10_idle : ByteArray := prog_1_method_34_code
def yX10_idle : MethodName := ⟨RX10, "idle", "(IIII)I"⟩
abbrev cX10_next : ByteArray := prog_1_method_35_code
def yX10_next : MethodName := ⟨RX10, "next", "(I)I"⟩
abbrev cX10_ahead : ByteArray := prog_1_method_36_code
def yX10_ahead : MethodName := ⟨RX10, "ahead", "(III)J"⟩
abbrev cX10_strain : ByteArray := prog_1_method_37_code
def yX10_strain : MethodName := ⟨RX10, "strain", "(II)I"⟩
abbrev cX10_calmed : ByteArray := prog_1_method_38_code
def yX10_calmed : MethodName := ⟨RX10, "calmed", "(II)I"⟩
abbrev cX10_refuse : ByteArray := prog_1_method_39_code
def yX10_refuse : MethodName := ⟨RX10, "refuse", "(I)I"⟩
abbrev cX10_answer : ByteArray := prog_1_method_40_code
def yX10_answer : MethodName := ⟨RX10, "answer", "(I)I"⟩
abbrev cX10_answerLong : ByteArray := prog_1_method_41_code
def yX10_answerLong : MethodName := ⟨RX10, "answerLong", "(J)J"⟩
abbrev cX10_within : ByteArray := prog_1_method_42_code
def yX10_within : MethodName := ⟨RX10, "within", "(III)Z"⟩
abbrev cX10_isNumber : ByteArray := prog_1_method_43_code
def yX10_isNumber : MethodName := ⟨RX10, "isNumber", "(I)Z"⟩
abbrev cX10_isTap : ByteArray := prog_1_method_44_code
def yX10_isTap : MethodName := ⟨RX10, "isTap", "(I)Z"⟩
abbrev cX10_isStage : ByteArray := prog_1_method_45_code
def yX10_isStage : MethodName := ⟨RX10, "isStage", "(I)Z"⟩
abbrev cX10_putTo : ByteArray := prog_1_method_46_code
def yX10_putTo : MethodName := ⟨RX10, "putTo", "(II)I"⟩
abbrev cX10_beginAnewFrom : ByteArray := prog_1_method_47_code
def yX10_beginAnewFrom : MethodName := ⟨RX10, "beginAnewFrom", "(I)V"⟩
abbrev cX10_oneClock : ByteArray := prog_1_method_48_code
def yX10_oneClock : MethodName := ⟨RX10, "oneClock", "()V"⟩
abbrev cX10_handToFolds : ByteArray := prog_1_method_49_code
def yX10_handToFolds : MethodName := ⟨RX10, "handToFolds", "(I)V"⟩
abbrev cX10_keptByLoop : ByteArray := prog_1_method_50_code
def yX10_keptByLoop : MethodName := ⟨RX10, "keptByLoop", "()I"⟩
abbrev cX10_greatestGapOf : ByteArray := prog_1_method_51_code
def yX10_greatestGapOf : MethodName := ⟨RX10, "greatestGapOf", "(I)J"⟩
abbrev cX10_hitClocksAhead : ByteArray := prog_1_method_52_code
def yX10_hitClocksAhead : MethodName := ⟨RX10, "hitClocksAhead", "(II)I"⟩
def RX11 : String := "NoiseShaperModel"
def TX11 : u_T := fun k => match k with
  | 0 => ("NoiseShaperModel", "run", "[J", true)
  | 1 => ("NoiseShaperModel", "aside", "[J", true)
  | 2 => ("NoiseShaperModel", "status", "I", false)
  | 3 => ("NoiseShaperModel", "kind", "I", false)
  | 4 => ("NoiseShaperModel", "a", "I", false)
  | 5 => ("NoiseShaperModel", "b", "I", false)
  | 6 => ("NoiseShaperModel", "c", "I", false)
  | 7 => ("NoiseShaperModel", "loop", "I", false)
  | 8 => ("NoiseShaperModel", "order", "I", false)
  | 9 => ("NoiseShaperModel", "step", "I", false)
  | 10 => ("NoiseShaperModel", "levels", "I", false)
  | 11 => ("NoiseShaperModel", "limit", "I", false)
  | 12 => ("NoiseShaperModel", "dither", "I", false)
  | 13 => ("NoiseShaperModel", "seed", "I", false)
  | 14 => ("NoiseShaperModel", "isCalm", "Z", false)
  | 15 => ("NoiseShaperModel", "way", "I", false)
  | 16 => ("NoiseShaperModel", "combOrder", "I", false)
  | 17 => ("NoiseShaperModel", "ratio", "I", false)
  | 18 => ("NoiseShaperModel", "width", "I", false)
  | 19 => ("NoiseShaperModel", "in", "I", false)
  | 20 => ("NoiseShaperModel", "folds", "I", false)
  | 21 => ("NoiseShaperModel", "tapShift", "I", false)
  | 22 => ("NoiseShaperModel", "samples", "[I", true)
  | 23 => ("NoiseShaperModel", "deviations", "[I", true)
  | 24 => ("NoiseShaperModel", "foldTaps", "[I", true)
  | 25 => ("NoiseShaperModel", "ownTaps", "[I", true)
  | 26 => ("NoiseShaperModel", "ones", "[I", true)
  | 27 => ("NoiseShaperModel", "folded", "[I", true)
  | 28 => ("NoiseShaperModel", "states", "[J", true)
  | 29 => ("NoiseShaperModel", "outs", "[I", true)
  | 30 => ("NoiseShaperModel", "lead", "I", false)
  | 31 => ("NoiseShaperModel", "period", "I", false)
  | 32 => ("NoiseShaperModel", "asked", "[I", true)
  | 33 => ("NoiseShaperModel", "askedMany", "I", false)
  | _ => ("NoiseShaperModel", "trial", "[J", true)
def tyX11 : Nat → FieldType := fun k => match k with
  | 0 => .array .long
  | 1 => .array .long
  | 2 => .int
  | 3 => .int
  | 4 => .int
  | 5 => .int
  | 6 => .int
  | 7 => .int
  | 8 => .int
  | 9 => .int
  | 10 => .int
  | 11 => .int
  | 12 => .int
  | 13 => .int
  | 14 => .boolean
  | 15 => .int
  | 16 => .int
  | 17 => .int
  | 18 => .int
  | 19 => .int
  | 20 => .int
  | 21 => .int
  | 22 => .array .int
  | 23 => .array .int
  | 24 => .array .int
  | 25 => .array .int
  | 26 => .array .int
  | 27 => .array .int
  | 28 => .array .long
  | 29 => .array .int
  | 30 => .int
  | 31 => .int
  | 32 => .array .int
  | 33 => .int
  | _ => .array .long
abbrev wsX110 : List Cond := u_ws RX11 TX11 35
theorem nmX11 : ∀ a, a < 35 → ∀ b, b < 35 → a ≠ b → (TX11 a).2.1 ≠ (TX11 b).2.1 := by decide +kernel
theorem tyX11_ok : ∀ k, k < 35 → parseFieldDescriptor (TX11 k).2.2.1 = some (tyX11 k) := by decide +kernel
abbrev cX11_init : ByteArray := prog_13_method_1_code
def yX11_init : MethodName := ⟨RX11, "<init>", "()V"⟩
abbrev cX11_status : ByteArray := prog_13_method_2_code
def yX11_status : MethodName := ⟨RX11, "status", "()I"⟩
abbrev cX11_refuse : ByteArray := prog_13_method_3_code
def yX11_refuse : MethodName := ⟨RX11, "refuse", "(I)I"⟩
abbrev cX11_gives : ByteArray := prog_13_method_4_code
def yX11_gives : MethodName := ⟨RX11, "gives", "(I)I"⟩
abbrev cX11_givesLong : ByteArray := prog_13_method_5_code
def yX11_givesLong : MethodName := ⟨RX11, "givesLong", "(J)J"⟩
abbrev cX11_isFrom : ByteArray := prog_13_method_6_code
def yX11_isFrom : MethodName := ⟨RX11, "isFrom", "(III)Z"⟩
abbrev cX11_isFar : ByteArray := prog_13_method_7_code
def yX11_isFar : MethodName := ⟨RX11, "isFar", "(I)Z"⟩
abbrev cX11_get : ByteArray := prog_13_method_8_code
def yX11_get : MethodName := ⟨RX11, "get", "(I)I"⟩
abbrev cX11_copies : ByteArray := prog_13_method_9_code
def yX11_copies : MethodName := ⟨RX11, "copies", "([J[J)V"⟩
abbrev cX11_wipes : ByteArray := prog_13_method_10_code
def yX11_wipes : MethodName := ⟨RX11, "wipes", "(II)V"⟩
abbrev cX11_begins : ByteArray := prog_13_method_11_code
def yX11_begins : MethodName := ⟨RX11, "begins", "(I)V"⟩
abbrev cX11_beginsLoop : ByteArray := prog_13_method_12_code
def yX11_beginsLoop : MethodName := ⟨RX11, "beginsLoop", "()V"⟩
abbrev cX11_beginsElements : ByteArray := prog_13_method_13_code
def yX11_beginsElements : MethodName := ⟨RX11, "beginsElements", "()V"⟩
abbrev cX11_elements : ByteArray := prog_13_method_14_code
def yX11_elements : MethodName := ⟨RX11, "elements", "()I"⟩
abbrev cX11_besides : ByteArray := prog_13_method_15_code
def yX11_besides : MethodName := ⟨RX11, "besides", "()I"⟩
abbrev cX11_weight : ByteArray := prog_13_method_16_code
def yX11_weight : MethodName := ⟨RX11, "weight", "(I)I"⟩
abbrev cX11_weights : ByteArray := prog_13_method_17_code
def yX11_weights : MethodName := ⟨RX11, "weights", "()I"⟩
abbrev cX11_tells : ByteArray := prog_13_method_18_code
def yX11_tells : MethodName := ⟨RX11, "tells", "(IJ)V"⟩
abbrev cX11_many : ByteArray := prog_13_method_19_code
def yX11_many : MethodName := ⟨RX11, "many", "(I)I"⟩
abbrev cX11_latestOf : ByteArray := prog_13_method_20_code
def yX11_latestOf : MethodName := ⟨RX11, "latestOf", "(II)J"⟩
abbrev cX11_sourceAt : ByteArray := prog_13_method_21_code
def yX11_sourceAt : MethodName := ⟨RX11, "sourceAt", "(I)I"⟩
abbrev cX11_valueOf : ByteArray := prog_13_method_22_code
def yX11_valueOf : MethodName := ⟨RX11, "valueOf", "(I)I"⟩
abbrev cX11_nearest : ByteArray := prog_13_method_23_code
def yX11_nearest : MethodName := ⟨RX11, "nearest", "(I)I"⟩
abbrev cX11_held : ByteArray := prog_13_method_24_code
def yX11_held : MethodName := ⟨RX11, "held", "(I)I"⟩
abbrev cX11_drawn : ByteArray := prog_13_method_25_code
def yX11_drawn : MethodName := ⟨RX11, "drawn", "()I"⟩
abbrev cX11_loops : ByteArray := prog_13_method_26_code
def yX11_loops : MethodName := ⟨RX11, "loops", "(II)I"⟩
abbrev cX11_byErrors : ByteArray := prog_13_method_27_code
def yX11_byErrors : MethodName := ⟨RX11, "byErrors", "(II)I"⟩
abbrev cX11_bySums : ByteArray := prog_13_method_28_code
def yX11_bySums : MethodName := ⟨RX11, "bySums", "(II)I"⟩
abbrev cX11_byCascade : ByteArray := prog_13_method_29_code
def yX11_byCascade : MethodName := ⟨RX11, "byCascade", "(II)I"⟩
abbrev cX11_wouldBeOn : ByteArray := prog_13_method_30_code
def yX11_wouldBeOn : MethodName := ⟨RX11, "wouldBeOn", "(I)I"⟩
abbrev cX11_bounded : ByteArray := prog_13_method_31_code
def yX11_bounded : MethodName := ⟨RX11, "bounded", "(J)J"⟩
abbrev cX11_goesElements : ByteArray := prog_13_method_32_code
def yX11_goesElements : MethodName := ⟨RX11, "goesElements", "(I)I"⟩
abbrev cX11_worded : ByteArray := prog_13_method_33_code
def yX11_worded : MethodName := ⟨RX11, "worded", "(J)J"⟩
abbrev cX11_combs : ByteArray := prog_13_method_34_code
def yX11_combs : MethodName := ⟨RX11, "combs", "(J)Z"⟩
abbrev cX11_tapMany : ByteArray := prog_13_method_35_code
def yX11_tapMany : MethodName := ⟨RX11, "tapMany", "(I)I"⟩
abbrev cX11_tapOf : ByteArray := prog_13_method_36_code
def yX11_tapOf : MethodName := ⟨RX11, "tapOf", "(II)I"⟩
abbrev cX11_shiftOf : ByteArray := prog_13_method_37_code
def yX11_shiftOf : MethodName := ⟨RX11, "shiftOf", "(I)I"⟩
abbrev cX11_folds : ByteArray := prog_13_method_38_code
def yX11_folds : MethodName := ⟨RX11, "folds", "(IJ)Z"⟩
abbrev cX11_goes : ByteArray := prog_13_method_39_code
def yX11_goes : MethodName := ⟨RX11, "goes", "()V"⟩
abbrev cX11_source : ByteArray := prog_13_method_40_code
def yX11_source : MethodName := ⟨RX11, "source", "(IIII)I"⟩
abbrev cX11_sample : ByteArray := prog_13_method_41_code
def yX11_sample : MethodName := ⟨RX11, "sample", "(II)I"⟩
abbrev cX11_loop : ByteArray := prog_13_method_42_code
def yX11_loop : MethodName := ⟨RX11, "loop", "(IIIIIZ)I"⟩
abbrev cX11_dither : ByteArray := prog_13_method_43_code
def yX11_dither : MethodName := ⟨RX11, "dither", "(II)I"⟩
abbrev cX11_way : ByteArray := prog_13_method_44_code
def yX11_way : MethodName := ⟨RX11, "way", "(I)I"⟩
abbrev cX11_deviation : ByteArray := prog_13_method_45_code
def yX11_deviation : MethodName := ⟨RX11, "deviation", "(II)I"⟩
abbrev cX11_comb : ByteArray := prog_13_method_46_code
def yX11_comb : MethodName := ⟨RX11, "comb", "(IIII)I"⟩
abbrev cX11_taps : ByteArray := prog_13_method_47_code
def yX11_taps : MethodName := ⟨RX11, "taps", "(IIIII)I"⟩
abbrev cX11_isTap : ByteArray := prog_13_method_48_code
def yX11_isTap : MethodName := ⟨RX11, "isTap", "(I)Z"⟩
abbrev cX11_folds_ : ByteArray := prog_13_method_49_code
def yX11_folds_ : MethodName := ⟨RX11, "folds", "(IIII)I"⟩
abbrev cX11_isStage : ByteArray := prog_13_method_50_code
def yX11_isStage : MethodName := ⟨RX11, "isStage", "(I)Z"⟩
abbrev cX11_anew : ByteArray := prog_13_method_51_code
def yX11_anew : MethodName := ⟨RX11, "anew", "(I)I"⟩
abbrev cX11_clocks : ByteArray := prog_13_method_52_code
def yX11_clocks : MethodName := ⟨RX11, "clocks", "(I)I"⟩
abbrev cX11_told : ByteArray := prog_13_method_53_code
def yX11_told : MethodName := ⟨RX11, "told", "(I)I"⟩
abbrev cX11_latest : ByteArray := prog_13_method_54_code
def yX11_latest : MethodName := ⟨RX11, "latest", "(II)I"⟩
abbrev cX11_state : ByteArray := prog_13_method_55_code
def yX11_state : MethodName := ⟨RX11, "state", "(I)I"⟩
abbrev cX11_sum : ByteArray := prog_13_method_56_code
def yX11_sum : MethodName := ⟨RX11, "sum", "(I)J"⟩
abbrev cX11_gap : ByteArray := prog_13_method_57_code
def yX11_gap : MethodName := ⟨RX11, "gap", "(II)J"⟩
abbrev cX11_range : ByteArray := prog_13_method_58_code
def yX11_range : MethodName := ⟨RX11, "range", "(II)J"⟩
abbrev cX11_steady : ByteArray := prog_13_method_59_code
def yX11_steady : MethodName := ⟨RX11, "steady", "(II)I"⟩
abbrev cX11_element : ByteArray := prog_13_method_60_code
def yX11_element : MethodName := ⟨RX11, "element", "(II)I"⟩
abbrev cX11_spreadNow : ByteArray := prog_13_method_61_code
def yX11_spreadNow : MethodName := ⟨RX11, "spreadNow", "()I"⟩
abbrev cX11_spread : ByteArray := prog_13_method_62_code
def yX11_spread : MethodName := ⟨RX11, "spread", "()I"⟩
abbrev cX11_combed : ByteArray := prog_13_method_63_code
def yX11_combed : MethodName := ⟨RX11, "combed", "(I)I"⟩
abbrev cX11_wrong : ByteArray := prog_13_method_64_code
def yX11_wrong : MethodName := ⟨RX11, "wrong", "(I)J"⟩
abbrev cX11_unlikeNone : ByteArray := prog_13_method_65_code
def yX11_unlikeNone : MethodName := ⟨RX11, "unlikeNone", "(I)I"⟩
abbrev cX11_work : ByteArray := prog_13_method_66_code
def yX11_work : MethodName := ⟨RX11, "work", "(II)I"⟩
abbrev cX11_needFor : ByteArray := prog_13_method_67_code
def yX11_needFor : MethodName := ⟨RX11, "needFor", "(I)I"⟩
abbrev cX11_need : ByteArray := prog_13_method_68_code
def yX11_need : MethodName := ⟨RX11, "need", "(I)I"⟩
abbrev cX11_response : ByteArray := prog_13_method_69_code
def yX11_response : MethodName := ⟨RX11, "response", "(I)I"⟩
abbrev cX11_half : ByteArray := prog_13_method_70_code
def yX11_half : MethodName := ⟨RX11, "half", "(II)I"⟩
abbrev cX11_beatOf : ByteArray := prog_13_method_71_code
def yX11_beatOf : MethodName := ⟨RX11, "beatOf", "(II)J"⟩
abbrev cX11_beat : ByteArray := prog_13_method_72_code
def yX11_beat : MethodName := ⟨RX11, "beat", "(II)J"⟩
abbrev cX11_tonal : ByteArray := prog_13_method_73_code
def yX11_tonal : MethodName := ⟨RX11, "tonal", "(I)I"⟩
abbrev cX11_lays : ByteArray := prog_13_method_74_code
def yX11_lays : MethodName := ⟨RX11, "lays", "(I)V"⟩
abbrev cX11_isLike : ByteArray := prog_13_method_75_code
def yX11_isLike : MethodName := ⟨RX11, "isLike", "(II)Z"⟩
abbrev cX11_tones : ByteArray := prog_13_method_76_code
def yX11_tones : MethodName := ⟨RX11, "tones", "(IZ)V"⟩
abbrev cX11_asks : ByteArray := prog_13_method_77_code
def yX11_asks : MethodName := ⟨RX11, "asks", "(I)V"⟩
abbrev cX11_inPattern : ByteArray := prog_13_method_78_code
def yX11_inPattern : MethodName := ⟨RX11, "inPattern", "(I)I"⟩
abbrev cX11_ofPattern : ByteArray := prog_13_method_79_code
def yX11_ofPattern : MethodName := ⟨RX11, "ofPattern", "(I)I"⟩
abbrev cX11_tone : ByteArray := prog_13_method_80_code
def yX11_tone : MethodName := ⟨RX11, "tone", "(II)I"⟩
abbrev cX11_out : ByteArray := prog_13_method_81_code
def yX11_out : MethodName := ⟨RX11, "out", "(II)I"⟩
abbrev cX11_asked : ByteArray := prog_13_method_82_code
def yX11_asked : MethodName := ⟨RX11, "asked", "(I)I"⟩
abbrev cX11_idle : ByteArray := prog_13_method_83_code
def yX11_idle : MethodName := ⟨RX11, "idle", "(IIII)I"⟩
abbrev cX11_next : ByteArray := prog_13_method_84_code
def yX11_next : MethodName := ⟨RX11, "next", "(I)I"⟩
abbrev cX11_ahead : ByteArray := prog_13_method_85_code
def yX11_ahead : MethodName := ⟨RX11, "ahead", "(III)J"⟩
abbrev cX11_strained : ByteArray := prog_13_method_86_code
def yX11_strained : MethodName := ⟨RX11, "strained", "(II)I"⟩
abbrev cX11_strain : ByteArray := prog_13_method_87_code
def yX11_strain : MethodName := ⟨RX11, "strain", "(II)I"⟩
abbrev cX11_calmed : ByteArray := prog_13_method_88_code
def yX11_calmed : MethodName := ⟨RX11, "calmed", "(II)I"⟩
def RJ6 : String := "java/lang/Integer"
def TJ6 : u_T := fun k => match k with
  | _ => ("", "", "", false)
def tyJ6 : Nat → FieldType := fun k => match k with
  | _ => .int
abbrev wsJ60 : List Cond := u_ws RJ6 TJ6 0
theorem nmJ6 : ∀ a, a < 0 → ∀ b, b < 0 → a ≠ b → (TJ6 a).2.1 ≠ (TJ6 b).2.1 := by decide +kernel
theorem tyJ6_ok : ∀ k, k < 0 → parseFieldDescriptor (TJ6 k).2.2.1 = some (tyJ6 k) := by decide +kernel
abbrev cJ6_bitCount_0f7a4 : ByteArray := prog_14_method_49_code
def yJ6_bitCount_0f7a4 : MethodName := ⟨RJ6, "bitCount", "(I)I"⟩
def RJ9 : String := "java/lang/Math"
def TJ9 : u_T := fun k => match k with
  | _ => ("", "", "", false)
def tyJ9 : Nat → FieldType := fun k => match k with
  | _ => .int
abbrev wsJ90 : List Cond := u_ws RJ9 TJ9 0
theorem nmJ9 : ∀ a, a < 0 → ∀ b, b < 0 → a ≠ b → (TJ9 a).2.1 ≠ (TJ9 b).2.1 := by decide +kernel
theorem tyJ9_ok : ∀ k, k < 0 → parseFieldDescriptor (TJ9 k).2.2.1 = some (tyJ9 k) := by decide +kernel
abbrev cJ9_floorDiv_7cf53 : ByteArray := prog_15_method_47_code
def yJ9_floorDiv_7cf53 : MethodName := ⟨RJ9, "floorDiv", "(II)I"⟩
abbrev cJ9_floorMod_7cf53 : ByteArray := prog_15_method_50_code
def yJ9_floorMod_7cf53 : MethodName := ⟨RJ9, "floorMod", "(II)I"⟩
abbrev cJ9_abs_0f7a4 : ByteArray := prog_15_method_59_code
def yJ9_abs_0f7a4 : MethodName := ⟨RJ9, "abs", "(I)I"⟩
abbrev cJ9_abs_067f4 : ByteArray := prog_15_method_61_code
def yJ9_abs_067f4 : MethodName := ⟨RJ9, "abs", "(J)J"⟩
abbrev cJ9_max_7cf53 : ByteArray := prog_15_method_65_code
def yJ9_max_7cf53 : MethodName := ⟨RJ9, "max", "(II)I"⟩
abbrev cJ9_max_f86c9 : ByteArray := prog_15_method_66_code
def yJ9_max_f86c9 : MethodName := ⟨RJ9, "max", "(JJ)J"⟩
abbrev cJ9_min_7cf53 : ByteArray := prog_15_method_69_code
def yJ9_min_7cf53 : MethodName := ⟨RJ9, "min", "(II)I"⟩
abbrev cJ9_min_f86c9 : ByteArray := prog_15_method_70_code
def yJ9_min_f86c9 : MethodName := ⟨RJ9, "min", "(JJ)J"⟩
def RJ10 : String := "java/lang/System"
def TJ10 : u_T := fun k => match k with
  | _ => ("", "", "", false)
def tyJ10 : Nat → FieldType := fun k => match k with
  | _ => .int
abbrev wsJ100 : List Cond := u_ws RJ10 TJ10 0
theorem nmJ10 : ∀ a, a < 0 → ∀ b, b < 0 → a ≠ b → (TJ10 a).2.1 ≠ (TJ10 b).2.1 := by decide +kernel
theorem tyJ10_ok : ∀ k, k < 0 → parseFieldDescriptor (TJ10 k).2.2.1 = some (tyJ10 k) := by decide +kernel
def RJ7 : String := "java/util/Arrays"
def TJ7 : u_T := fun k => match k with
  | _ => ("", "", "", false)
def tyJ7 : Nat → FieldType := fun k => match k with
  | _ => .int
abbrev wsJ70 : List Cond := u_ws RJ7 TJ7 0
theorem nmJ7 : ∀ a, a < 0 → ∀ b, b < 0 → a ≠ b → (TJ7 a).2.1 ≠ (TJ7 b).2.1 := by decide +kernel
theorem tyJ7_ok : ∀ k, k < 0 → parseFieldDescriptor (TJ7 k).2.2.1 = some (tyJ7 k) := by decide +kernel
abbrev cJ7_fill_d0a16 : ByteArray := prog_17_method_101_code
def yJ7_fill_d0a16 : MethodName := ⟨RJ7, "fill", "([JJ)V"⟩
abbrev cJ7_fill_53178 : ByteArray := prog_17_method_103_code
def yJ7_fill_53178 : MethodName := ⟨RJ7, "fill", "([II)V"⟩
def RL : String := "NoiseShaperLaw"
abbrev cL_law : ByteArray := code
def yL_law : MethodName := ⟨RL, "law", "([I)Z"⟩
abbrev vwCl : List vw_C := [(RX0, TX0, 2), (RX1, TX1, 10), (RX2, TX2, 11), (RX3, TX3, 4), (RX4, TX4, 4), (RX5, TX5, 14), (RX6, TX6, 8), (RX7, TX7, 5), (RX8, TX8, 2), (RX9, TX9, 6), (RX10, TX10, 14), (RX11, TX11, 35)]
theorem inX0 : ∀ w ∈ wsX00, w ∈ lw_tbl := by decide +kernel
theorem inX1 : ∀ w ∈ wsX10, w ∈ lw_tbl := by decide +kernel
theorem inX2 : ∀ w ∈ wsX20, w ∈ lw_tbl := by decide +kernel
theorem inX3 : ∀ w ∈ wsX30, w ∈ lw_tbl := by decide +kernel
theorem inX4 : ∀ w ∈ wsX40, w ∈ lw_tbl := by decide +kernel
theorem inX5 : ∀ w ∈ wsX50, w ∈ lw_tbl := by decide +kernel
theorem inX6 : ∀ w ∈ wsX60, w ∈ lw_tbl := by decide +kernel
theorem inX7 : ∀ w ∈ wsX70, w ∈ lw_tbl := by decide +kernel
theorem inX8 : ∀ w ∈ wsX80, w ∈ lw_tbl := by decide +kernel
theorem inX9 : ∀ w ∈ wsX90, w ∈ lw_tbl := by decide +kernel
theorem inX10 : ∀ w ∈ wsX100, w ∈ lw_tbl := by decide +kernel
theorem inX11 : ∀ w ∈ wsX110, w ∈ lw_tbl := by decide +kernel
end
section
/-! THE WALKER (my own): a weakest precondition over javac's instructions, for methods that make no cell. The cells have fixed places; a store gives what ints and longs they hold. -/
/-- what the cells hold: ints and longs, by place and number -/
abbrev vg_S : Type := (Nat → Nat → Int32) × (Nat → Nat → Int64)
/-- a cell's shape: an array (0 ints, 1 longs, from 2 on references; its length; the places it holds), or an object (its class, its fields: 0 int, 1 long, n + 2 the place n) -/
abbrev vg_C : Type := (Nat × Nat × List Nat) ⊕ (Nat × List Nat)
/-- the locals -/
abbrev vg_L : Type := List (Option Value)
/-- an instruction: pc, the instruction, its length, and four numbers that say what it links -/
abbrev vg_I : Type := Nat × Instr × Nat × Nat × Nat × Nat × Int
/-- a method: name, code, locals, answer's type, frames, words, kind of answer (0 none, 1 int, 2 long, 3 a place), places that it may answer, whether it is static; what it asks; what it gives -/
abbrev vg_R : Type := (MethodName × ByteArray × Nat × Option FieldType × Nat × Nat × Nat × List Nat × Bool) × (List Value → vg_S → Prop) × (List Value → vg_S → Option Value → vg_S → Prop)
def vg_nth {α : Type} : List α → Nat → Option α
  | [], _ => none
  | x :: _, 0 => some x
  | _ :: r, i + 1 => vg_nth r i
theorem vg_nth_eq {α : Type} : ∀ (l : List α) (i : Nat), vg_nth l i = l[i]?
  | [], i => by simp [vg_nth]
  | x :: r, 0 => by simp [vg_nth]
  | x :: r, i + 1 => by simp [vg_nth, vg_nth_eq r i]
def vg_w1 (σ : vg_S) (k : Nat) (f : Nat → Int32) : vg_S := (fun a => if a = k then f else σ.1 a, σ.2)
def vg_w2 (σ : vg_S) (k : Nat) (f : Nat → Int64) : vg_S := (σ.1, fun a => if a = k then f else σ.2 a)
def vg_u1 (σ : vg_S) (k i : Nat) (x : Int32) : vg_S := vg_w1 σ k (upd (σ.1 k) i x)
def vg_u2 (σ : vg_S) (k i : Nat) (x : Int64) : vg_S := vg_w2 σ k (vp_updL (σ.2 k) i x)
/-! locals -/
def vg_k : Option Value → Option Value
  | some (.long _) => none
  | some (.double _) => none
  | x => x
def vg_s1 : vg_L → Nat → Value → vg_L
  | [], _, _ => []
  | _ :: r, 0, v => some v :: r
  | x :: r, 1, v => vg_k x :: vg_s1 r 0 v
  | x :: r, i + 2, v => x :: vg_s1 r (i + 1) v
def vg_n0 : vg_L → vg_L
  | [] => []
  | _ :: r => none :: r
def vg_s2 : vg_L → Nat → Value → vg_L
  | [], _, _ => []
  | _ :: r, 0, v => some v :: vg_n0 r
  | x :: r, 1, v => vg_k x :: vg_s2 r 0 v
  | x :: r, i + 2, v => x :: vg_s2 r (i + 1) v
def vg_cat : List Value → Nat
  | [] => 0
  | v :: r => v.category + vg_cat r
/-- the last n of a stack, as arguments, in front of acc -/
def vg_args : Nat → List Value → List Value → List Value
  | 0, _, acc => acc
  | n + 1, v :: r, acc => vg_args n r (v :: acc)
  | _ + 1, [], acc => acc
def vg_drop : Nat → List Value → List Value
  | 0, r => r
  | n + 1, _ :: r => vg_drop n r
  | _ + 1, [] => []
/-- an index lies within -/
def vg_ix (i : Int32) (n : Nat) : Prop := 0 ≤ i.toInt ∧ i.toInt < (n : Int)
def vg_c0 (c : Jvm.ClassFile.Cond) (x : Int32) : Prop := match c with
  | .eq => x.toInt = 0
  | .ne => ¬ x.toInt = 0
  | .lt => x.toInt < 0
  | .ge => 0 ≤ x.toInt
  | .gt => 0 < x.toInt
  | .le => x.toInt ≤ 0
def vg_c2 (c : Jvm.ClassFile.Cond) (x y : Int32) : Prop := match c with
  | .eq => x.toInt = y.toInt
  | .ne => ¬ x.toInt = y.toInt
  | .lt => x.toInt < y.toInt
  | .ge => y.toInt ≤ x.toInt
  | .gt => y.toInt < x.toInt
  | .le => x.toInt ≤ y.toInt
/-- every place of a list that the index may name -/
def vg_al (f : Nat → Prop) (i : Int32) : Nat → List Nat → Prop
  | _, [] => True
  | j, k :: r => (i.toInt = (j : Int) → f k) ∧ vg_al f i (j + 1) r
def vg_any (f : Nat → Prop) : List Nat → Prop
  | [] => True
  | k :: r => f k ∧ vg_any f r
def vg_tb (f : Nat → Prop) (pc : Nat) (x : Int32) : Int → List Int → Prop
  | _, [] => True
  | lo, o :: r => (x.toInt = lo → f ((pc : Int) + o).toNat) ∧ vg_tb f pc x (lo + 1) r
def vg_lk (f : Nat → Prop) (pc : Nat) (x : Int32) (d : Int) : List (Int × Int) → Prop
  | [] => f ((pc : Int) + d).toNat
  | (a, o) :: r => (x.toInt = a → f ((pc : Int) + o).toNat) ∧ (¬ x.toInt = a → vg_lk f pc x d r)
/-- a call -/
def vg_call (r : vg_R) (as rest : List Value) (σ : vg_S) (K : List Value → vg_S → Prop) : Prop :=
  vg_cat rest ≤ 8 ∧ r.2.1 as σ ∧ (match r.1.2.2.2.2.2.2.1 with
  | 0 => ∀ σ', r.2.2 as σ none σ' → K rest σ'
  | 1 => ∀ (x : Int32) σ', r.2.2 as σ (some (.int x)) σ' → K (.int x :: rest) σ'
  | 2 => ∀ (x : Int64) σ', r.2.2 as σ (some (.long x)) σ' → K (.long x :: rest) σ'
  | _ => vg_any (fun k => ∀ σ', r.2.2 as σ (some (.ref k)) σ' → K (.ref k :: rest) σ') r.1.2.2.2.2.2.2.2.1)
def vg_jp (J : Nat → Prop) (pc : Nat) (off : Int) : Prop := J ((pc : Int) + off).toNat
/-- one instruction: K goes on behind it, J goes on at another pc, po is what the method owes at its end -/
def vg_ex (sh : List vg_C) (ro : Nat → Option (Nat × (Nat → Int32))) (cs : List vg_R) (po : Option Value → vg_S → Prop) (K : vg_L → List Value → vg_S → Prop) (J : vg_L → List Value → vg_S → Nat → Prop) (q : vg_I) (L : vg_L) (st : List Value) (σ : vg_S) : Prop := match q with
  | (pc, op, _, a, b, c, z) => match op with
    | .iconst i => K L (.int (Int32.ofInt i) :: st) σ
    | .bipush i => K L (.int (Int32.ofInt i) :: st) σ
    | .sipush i => K L (.int (Int32.ofInt i) :: st) σ
    | .lconst i => K L (.long (Int64.ofNat (i : Nat)) :: st) σ
    | .ldc _ => K L (.int (Int32.ofInt z) :: st) σ
    | .ldc_w _ => K L (.int (Int32.ofInt z) :: st) σ
    | .ldc2_w _ => K L (.long (Int64.ofInt z) :: st) σ
    | .iload_n i => (match vg_nth L i with
      | some (some (.int x)) => K L (.int x :: st) σ
      | _ => False)
    | .iload i => (match vg_nth L i with
      | some (some (.int x)) => K L (.int x :: st) σ
      | _ => False)
    | .lload_n i => (match vg_nth L i with
      | some (some (.long x)) => K L (.long x :: st) σ
      | _ => False)
    | .lload i => (match vg_nth L i with
      | some (some (.long x)) => K L (.long x :: st) σ
      | _ => False)
    | .aload_n i => (match vg_nth L i with
      | some (some (.ref x)) => K L (.ref x :: st) σ
      | _ => False)
    | .aload i => (match vg_nth L i with
      | some (some (.ref x)) => K L (.ref x :: st) σ
      | _ => False)
    | .istore_n i => (match vg_nth L i, st with
      | some _, .int x :: st => K (vg_s1 L i (.int x)) st σ
      | _, _ => False)
    | .istore i => (match vg_nth L i, st with
      | some _, .int x :: st => K (vg_s1 L i (.int x)) st σ
      | _, _ => False)
    | .astore_n i => (match vg_nth L i, st with
      | some _, .ref x :: st => K (vg_s1 L i (.ref x)) st σ
      | _, _ => False)
    | .astore i => (match vg_nth L i, st with
      | some _, .ref x :: st => K (vg_s1 L i (.ref x)) st σ
      | _, _ => False)
    | .lstore_n i => (match vg_nth L (i + 1), st with
      | some _, .long x :: st => K (vg_s2 L i (.long x)) st σ
      | _, _ => False)
    | .lstore i => (match vg_nth L (i + 1), st with
      | some _, .long x :: st => K (vg_s2 L i (.long x)) st σ
      | _, _ => False)
    | .iinc i n => (match vg_nth L i with
      | some (some (.int x)) => ∀ v, v = x + Int32.ofInt n → K (vg_s1 L i (.int v)) st σ
      | _ => False)
    | .iadd => (match st with
      | .int y :: .int x :: st => ∀ v, v = x + y → K L (.int v :: st) σ
      | _ => False)
    | .isub => (match st with
      | .int y :: .int x :: st => ∀ v, v = x - y → K L (.int v :: st) σ
      | _ => False)
    | .imul => (match st with
      | .int y :: .int x :: st => ∀ v, v = x * y → K L (.int v :: st) σ
      | _ => False)
    | .iand => (match st with
      | .int y :: .int x :: st => ∀ v, v = x &&& y → K L (.int v :: st) σ
      | _ => False)
    | .ior => (match st with
      | .int y :: .int x :: st => ∀ v, v = x ||| y → K L (.int v :: st) σ
      | _ => False)
    | .ixor => (match st with
      | .int y :: .int x :: st => ∀ v, v = x ^^^ y → K L (.int v :: st) σ
      | _ => False)
    | .ishl => (match st with
      | .int y :: .int x :: st => ∀ v, v = x <<< (y &&& 31) → K L (.int v :: st) σ
      | _ => False)
    | .ishr => (match st with
      | .int y :: .int x :: st => ∀ v, v = x >>> (y &&& 31) → K L (.int v :: st) σ
      | _ => False)
    | .iushr => (match st with
      | .int y :: .int x :: st => ∀ v, v = (x.toUInt32 >>> (y.toUInt32 &&& Int32.toUInt32 31)).toInt32 → K L (.int v :: st) σ
      | _ => False)
    | .ineg => (match st with
      | .int x :: st => ∀ v, v = -x → K L (.int v :: st) σ
      | _ => False)
    | .idiv => (match st with
      | .int y :: .int x :: st => ¬ y.toInt = 0 ∧ ∀ v, v = x / y → K L (.int v :: st) σ
      | _ => False)
    | .irem => (match st with
      | .int y :: .int x :: st => ¬ y.toInt = 0 ∧ ∀ v, v = x - x / y * y → K L (.int v :: st) σ
      | _ => False)
    | .ladd => (match st with
      | .long y :: .long x :: st => ∀ v, v = x + y → K L (.long v :: st) σ
      | _ => False)
    | .lsub => (match st with
      | .long y :: .long x :: st => ∀ v, v = x - y → K L (.long v :: st) σ
      | _ => False)
    | .lmul => (match st with
      | .long y :: .long x :: st => ∀ v, v = x * y → K L (.long v :: st) σ
      | _ => False)
    | .land => (match st with
      | .long y :: .long x :: st => ∀ v, v = x &&& y → K L (.long v :: st) σ
      | _ => False)
    | .lneg => (match st with
      | .long x :: st => ∀ v, v = -x → K L (.long v :: st) σ
      | _ => False)
    | .ldiv => (match st with
      | .long y :: .long x :: st => ¬ y.toInt = 0 ∧ ∀ v, v = x / y → K L (.long v :: st) σ
      | _ => False)
    | .lrem => (match st with
      | .long y :: .long x :: st => ¬ y.toInt = 0 ∧ ∀ v, v = x - x / y * y → K L (.long v :: st) σ
      | _ => False)
    | .lshl => (match st with
      | .int y :: .long x :: st => ∀ v, v = x <<< (y.toInt64 &&& 63) → K L (.long v :: st) σ
      | _ => False)
    | .lshr => (match st with
      | .int y :: .long x :: st => ∀ v, v = x >>> (y.toInt64 &&& 63) → K L (.long v :: st) σ
      | _ => False)
    | .lcmp => (match st with
      | .long y :: .long x :: st => ∀ v, v = lg_cmp x y → K L (.int v :: st) σ
      | _ => False)
    | .i2l => (match st with
      | .int x :: st => ∀ v, v = x.toInt64 → K L (.long v :: st) σ
      | _ => False)
    | .l2i => (match st with
      | .long x :: st => ∀ v, v = x.toInt32 → K L (.int v :: st) σ
      | _ => False)
    | .dup => (match st with
      | .int x :: st => K L (.int x :: .int x :: st) σ
      | .ref x :: st => K L (.ref x :: .ref x :: st) σ
      | _ => False)
    | .dup2 => (match st with
      | .int x :: .ref y :: st => K L (.int x :: .ref y :: .int x :: .ref y :: st) σ
      | .long x :: st => K L (.long x :: .long x :: st) σ
      | _ => False)
    | .pop => (match st with
      | .int _ :: st => K L st σ
      | _ => False)
    | .pop2 => (match st with
      | .long _ :: st => K L st σ
      | _ => False)
    | .goto off => vg_jp (J L st σ) pc off
    | .ifCond cd off => (match st with
      | .int x :: st => (vg_c0 cd x → vg_jp (J L st σ) pc off) ∧ (¬ vg_c0 cd x → K L st σ)
      | _ => False)
    | .if_icmp cd off => (match st with
      | .int y :: .int x :: st => (vg_c2 cd x y → vg_jp (J L st σ) pc off) ∧ (¬ vg_c2 cd x y → K L st σ)
      | _ => False)
    | .tableswitch d lo hi offs => (match st with
      | .int x :: st => (x.toInt < lo ∨ hi < x.toInt → vg_jp (J L st σ) pc d) ∧ vg_tb (J L st σ) pc x lo offs.toList
      | _ => False)
    | .lookupswitch d ps => (match st with
      | .int x :: st => vg_lk (J L st σ) pc x d ps.toList
      | _ => False)
    | .getfield _ => (match st with
      | .ref r :: st => (match vg_nth sh r with
        | some (.inr (ci, ks)) => (match Nat.beq ci b, vg_nth ks c with
          | true, some 0 => ∀ v, v = σ.1 r c → K L (.int v :: st) σ
          | true, some 1 => ∀ v, v = σ.2 r c → K L (.long v :: st) σ
          | true, some (n + 2) => K L (.ref n :: st) σ
          | _, _ => False)
        | _ => False)
      | _ => False)
    | .putfield _ => (match st with
      | .int x :: .ref r :: st => (match vg_nth sh r with
        | some (.inr (ci, ks)) => (match Nat.beq ci b, vg_nth ks c, z with
          | true, some 0, .ofNat 0 => ∀ σ', σ' = vg_u1 σ r c x → K L st σ'
          | true, some 0, .ofNat 1 => (x = 0 ∨ x = 1) ∧ ∀ σ', σ' = vg_u1 σ r c x → K L st σ'
          | _, _, _ => False)
        | _ => False)
      | .long x :: .ref r :: st => (match vg_nth sh r with
        | some (.inr (ci, ks)) => (match Nat.beq ci b, vg_nth ks c, z with
          | true, some 1, .ofNat 2 => ∀ σ', σ' = vg_u2 σ r c x → K L st σ'
          | _, _, _ => False)
        | _ => False)
      | _ => False)
    | .getstatic _ => (match ro a with
      | some _ => K L (.ref a :: st) σ
      | none => False)
    | .iaload => (match st with
      | .int i :: .ref r :: st => (match vg_nth sh r with
        | some (.inl (0, n, _)) => vg_ix i n ∧ ∀ v, v = σ.1 r i.toNatClampNeg → K L (.int v :: st) σ
        | none => (match ro r with
          | some (n, f) => vg_ix i n ∧ ∀ v, v = f i.toNatClampNeg → K L (.int v :: st) σ
          | none => False)
        | _ => False)
      | _ => False)
    | .laload => (match st with
      | .int i :: .ref r :: st => (match vg_nth sh r with
        | some (.inl (1, n, _)) => vg_ix i n ∧ ∀ v, v = σ.2 r i.toNatClampNeg → K L (.long v :: st) σ
        | _ => False)
      | _ => False)
    | .aaload => (match st with
      | .int i :: .ref r :: st => (match vg_nth sh r with
        | some (.inl (_ + 2, n, rs)) => Nat.ble n rs.length = true ∧ vg_ix i n ∧ vg_al (fun k => K L (.ref k :: st) σ) i 0 rs
        | _ => False)
      | _ => False)
    | .iastore => (match st with
      | .int x :: .int i :: .ref r :: st => (match vg_nth sh r with
        | some (.inl (0, n, _)) => vg_ix i n ∧ ∀ σ', σ' = vg_u1 σ r i.toNatClampNeg x → K L st σ'
        | _ => False)
      | _ => False)
    | .lastore => (match st with
      | .long x :: .int i :: .ref r :: st => (match vg_nth sh r with
        | some (.inl (1, n, _)) => vg_ix i n ∧ ∀ σ', σ' = vg_u2 σ r i.toNatClampNeg x → K L st σ'
        | _ => False)
      | _ => False)
    | .arraylength => (match st with
      | .ref r :: st => (match vg_nth sh r with
        | some (.inl (_, n, _)) => K L (.int (Int32.ofNat n) :: st) σ
        | none => (match ro r with
          | some (n, _) => K L (.int (Int32.ofNat n) :: st) σ
          | none => False)
        | _ => False)
      | _ => False)
    | .invokevirtual _ => (match vg_nth cs a, vg_drop c st with
      | some r, .ref o :: rest => (match vg_nth sh o with
        | some (.inr (ci, _)) => (match Nat.beq ci b, Nat.ble c st.length with
          | true, true => vg_call r (.ref o :: vg_args c st []) rest σ (fun st σ => K L st σ)
          | _, _ => False)
        | _ => False)
      | _, _ => False)
    | .invokestatic _ => (match b with
      | 3 => (match st with
        | .int n :: .int dp :: .ref kd :: .int sp :: .ref ks :: rest => (match vg_nth sh ks, vg_nth sh kd with
          | some (.inl (0, n0, _)), some (.inl (0, n1, _)) => vg_cat rest ≤ 8 ∧ 0 ≤ sp.toInt ∧ 0 ≤ dp.toInt ∧ 0 ≤ n.toInt ∧ sp.toInt + n.toInt ≤ (n0 : Int) ∧ dp.toInt + n.toInt ≤ (n1 : Int) ∧ ∀ σ', σ' = vg_w1 σ kd (va_cpy (σ.1 ks) (σ.1 kd) sp.toNatClampNeg dp.toNatClampNeg n.toNatClampNeg) → K L rest σ'
          | _, _ => False)
        | _ => False)
      | _ => (match vg_nth cs a, Nat.ble c st.length with
        | some r, true => vg_call r (vg_args c st []) (vg_drop c st) σ (fun st σ => K L st σ)
        | _, _ => False))
    | .ireturn => (match st, z with
      | [.int x], .ofNat 0 => po (some (.int x)) σ
      | [.int x], .ofNat 1 => (x = 0 ∨ x = 1) ∧ po (some (.int x)) σ
      | _, _ => False)
    | .lreturn => (match st with
      | [.long x] => po (some (.long x)) σ
      | _ => False)
    | .areturn => (match st with
      | [.ref k] => po (some (.ref k)) σ
      | _ => False)
    | .return_ => (match st with
      | [] => po none σ
      | _ => False)
    | _ => False
def vg_find : List vg_I → Nat → List vg_I
  | [], _ => []
  | q :: r, pc => match Nat.beq q.1 pc with
    | true => q :: r
    | false => vg_find r pc
/-- a cut: which locals are kept, what holds there, a measure -/
abbrev vg_V : Type := List Bool × (vg_L → vg_S → Prop) × (vg_L → vg_S → Nat)
def vg_mask : List Bool → vg_L → vg_L
  | _, [] => []
  | [], _ :: r => none :: vg_mask [] r
  | true :: b, x :: r => x :: vg_mask b r
  | false :: b, _ :: r => none :: vg_mask b r
def vg_lkp : List (Nat × vg_V) → Nat → Option vg_V
  | [], _ => none
  | q :: r, h => match Nat.beq q.1 h with
    | true => some q.2
    | false => vg_lkp r h
/-- the int in a local -/
def vg_li (L : vg_L) (i : Nat) : Int32 := match vg_nth L i with
  | some (some (.int x)) => x
  | _ => 0
def vg_bd (bd : Option Nat) (k : Nat) : Prop := match bd with
  | none => True
  | some m => k < m
/-- the walk: at a cut the cut's word is owed (and, with a bound, a lesser measure) -/
def vg (sh : List vg_C) (ro : Nat → Option (Nat × (Nat → Int32))) (cs : List vg_R) (po : Option Value → vg_S → Prop) (I : Nat → Option vg_V) (cd : List vg_I) (bd : Option Nat) : Nat → Bool → List vg_I → vg_L → List Value → vg_S → Prop
  | 0, _, _, _, _, _ => False
  | _ + 1, _, [], _, _, _ => False
  | n + 1, true, q :: nx, L, st, σ => vg_ex sh ro cs po (fun L st σ => vg sh ro cs po I cd bd n false nx L st σ) (fun L st σ t => vg sh ro cs po I cd bd n false (vg_find cd t) L st σ) q L st σ
  | n + 1, false, q :: nx, L, st, σ => match I q.1 with
    | none => vg_ex sh ro cs po (fun L st σ => vg sh ro cs po I cd bd n false nx L st σ) (fun L st σ t => vg sh ro cs po I cd bd n false (vg_find cd t) L st σ) q L st σ
    | some iv => st = [] ∧ iv.2.1 (vg_mask iv.1 L) σ ∧ vg_bd bd (iv.2.2 (vg_mask iv.1 L) σ)
end
section
/-! places and addresses, worlds, locals -/
/-- the classes' and slots' numbers, the array classes, the address of a place -/
abbrev vg_G : Type := va_G × (Nat → ClassId) × (Nat → Nat)
def vg_cv (ad : Nat → Nat) (v : Value) : Value := match v with
  | .ref k => .ref (ad k)
  | v => v
theorem vg_cv_cat (ad : Nat → Nat) (v : Value) : (vg_cv ad v).category = v.category := by cases v <;> rfl
theorem vg_cat_eq (ad : Nat → Nat) : ∀ st : List Value, ((st.map (vg_cv ad)).map fun v => v.category).sum = vg_cat st
  | [] => rfl
  | v :: r => by
    have h := vg_cat_eq ad r
    simp only [List.map_cons, List.sum_cons, vg_cat, vg_cv_cat] at h ⊢
    rw [h]
def vg_fv (ad : Nat → Nat) (f : Nat → Int32) (g : Nat → Int64) (kd i : Nat) : Value := match kd with
  | 0 => .int (f i)
  | 1 => .long (g i)
  | n + 2 => .ref (ad n)
def vg_fl (ad : Nat → Nat) (f : Nat → Int32) (g : Nat → Int64) : Nat → List Nat → List Value
  | _, [] => []
  | i, kd :: r => vg_fv ad f g kd i :: vg_fl ad f g (i + 1) r
theorem vg_fl_at (ad : Nat → Nat) (f : Nat → Int32) (g : Nat → Int64) : ∀ (ks : List Nat) (i j : Nat), (vg_fl ad f g i ks)[j]? = (ks[j]?).map (fun kd => vg_fv ad f g kd (i + j))
  | [], i, j => by simp [vg_fl]
  | kd :: r, i, 0 => by simp [vg_fl]
  | kd :: r, i, j + 1 => by
    simp only [vg_fl, List.getElem?_cons_succ]
    rw [vg_fl_at ad f g r (i + 1) j, Nat.add_assoc, Nat.add_comm 1 j]
theorem vg_fl_len (ad : Nat → Nat) (f : Nat → Int32) (g : Nat → Int64) : ∀ (ks : List Nat) (i : Nat), (vg_fl ad f g i ks).length = ks.length
  | [], i => rfl
  | kd :: r, i => by simp [vg_fl, vg_fl_len ad f g r (i + 1)]
theorem vg_fl_set1 (ad : Nat → Nat) (f : Nat → Int32) (g : Nat → Int64) (ks : List Nat) (i : Nat) (x : Int32) (h : ks[i]? = some 0) : (vg_fl ad f g 0 ks).set i (.int x) = vg_fl ad (upd f i x) g 0 ks := by
  apply List.ext_getElem?
  intro j
  rw [List.getElem?_set, vg_fl_at, vg_fl_at]
  by_cases hj : i = j
  · subst hj
    have hlt : i < (vg_fl ad f g 0 ks).length := by rw [vg_fl_len]; exact (List.getElem?_eq_some_iff.mp h).1
    rw [if_pos rfl, if_pos hlt, h]
    simp [vg_fv, upd]
  · rw [if_neg hj]
    cases hk : ks[j]? with
    | none => rfl
    | some kd =>
      match kd with
      | 0 => simp [vg_fv, upd, Ne.symm hj]
      | 1 => rfl
      | n + 2 => rfl
theorem vg_fl_set2 (ad : Nat → Nat) (f : Nat → Int32) (g : Nat → Int64) (ks : List Nat) (i : Nat) (x : Int64) (h : ks[i]? = some 1) : (vg_fl ad f g 0 ks).set i (.long x) = vg_fl ad f (vp_updL g i x) 0 ks := by
  apply List.ext_getElem?
  intro j
  rw [List.getElem?_set, vg_fl_at, vg_fl_at]
  by_cases hj : i = j
  · subst hj
    have hlt : i < (vg_fl ad f g 0 ks).length := by rw [vg_fl_len]; exact (List.getElem?_eq_some_iff.mp h).1
    rw [if_pos rfl, if_pos hlt, h]
    simp [vg_fv, vp_updL]
  · rw [if_neg hj]
    cases hk : ks[j]? with
    | none => rfl
    | some kd =>
      match kd with
      | 0 => rfl
      | 1 => simp [vg_fv, vp_updL, Ne.symm hj]
      | n + 2 => rfl
def vg_ce (dA : Nat → ClassId) (ad : Nat → Nat) (f : Nat → Int32) (g : Nat → Int64) (c : vg_C) : va_E := match c with
  | .inl (0, n, _) => .inl (dA 0, n, .inl f)
  | .inl (1, n, _) => .inl (dA 1, n, .inr (.inl g))
  | .inl (t + 2, n, rs) => .inl (dA (t + 2), n, .inr (.inr (.inr (.inr (fun j => (rs[j]?).map ad)))))
  | .inr (ci, ks) => .inr (ci, vg_fl ad f g 0 ks)
def vg_cw (dA : Nat → ClassId) (ad : Nat → Nat) (σ : vg_S) : Nat → List vg_C → va_W
  | _, [] => []
  | k, c :: r => (ad k, vg_ce dA ad (σ.1 k) (σ.2 k) c) :: vg_cw dA ad σ (k + 1) r
theorem vg_cw_at (dA : Nat → ClassId) (ad : Nat → Nat) (σ : vg_S) : ∀ (cs : List vg_C) (i j : Nat), (vg_cw dA ad σ i cs)[j]? = (cs[j]?).map (fun c => (ad (i + j), vg_ce dA ad (σ.1 (i + j)) (σ.2 (i + j)) c))
  | [], i, j => by simp [vg_cw]
  | c :: r, i, 0 => by simp [vg_cw]
  | c :: r, i, j + 1 => by
    simp only [vg_cw, List.getElem?_cons_succ]
    rw [vg_cw_at dA ad σ r (i + 1) j, Nat.add_assoc, Nat.add_comm 1 j]
theorem vg_cw_len (dA : Nat → ClassId) (ad : Nat → Nat) (σ : vg_S) : ∀ (cs : List vg_C) (i : Nat), (vg_cw dA ad σ i cs).length = cs.length
  | [], i => rfl
  | c :: r, i => by simp [vg_cw, vg_cw_len dA ad σ r (i + 1)]
theorem vg_cw_set1 (dA : Nat → ClassId) (ad : Nat → Nat) (σ : vg_S) (cs : List vg_C) (k : Nat) (c : vg_C) (f : Nat → Int32) (h : cs[k]? = some c) : (vg_cw dA ad σ 0 cs).set k (ad k, vg_ce dA ad f (σ.2 k) c) = vg_cw dA ad (vg_w1 σ k f) 0 cs := by
  apply List.ext_getElem?
  intro j
  rw [List.getElem?_set, vg_cw_at, vg_cw_at]
  by_cases hj : k = j
  · subst hj
    have hlt : k < (vg_cw dA ad σ 0 cs).length := by rw [vg_cw_len]; exact (List.getElem?_eq_some_iff.mp h).1
    rw [if_pos rfl, if_pos hlt, h]
    simp [vg_w1]
  · rw [if_neg hj]
    simp [vg_w1, Ne.symm hj]
theorem vg_cw_set2 (dA : Nat → ClassId) (ad : Nat → Nat) (σ : vg_S) (cs : List vg_C) (k : Nat) (c : vg_C) (g : Nat → Int64) (h : cs[k]? = some c) : (vg_cw dA ad σ 0 cs).set k (ad k, vg_ce dA ad (σ.1 k) g c) = vg_cw dA ad (vg_w2 σ k g) 0 cs := by
  apply List.ext_getElem?
  intro j
  rw [List.getElem?_set, vg_cw_at, vg_cw_at]
  by_cases hj : k = j
  · subst hj
    have hlt : k < (vg_cw dA ad σ 0 cs).length := by rw [vg_cw_len]; exact (List.getElem?_eq_some_iff.mp h).1
    rw [if_pos rfl, if_pos hlt, h]
    simp [vg_w2]
  · rw [if_neg hj]
    simp [vg_w2, Ne.symm hj]
/-- the cells of the places -/
def vg_A (ad : Nat → Nat) (n : Nat) : Nat → Prop := fun q => ∃ k, k < n ∧ q = ad k
theorem vg_cw_D (dA : Nat → ClassId) (ad : Nat → Nat) (σ : vg_S) (cs : List vg_C) (hap : ∀ i j, i < cs.length → j < cs.length → ad i = ad j → i = j) : va_D (vg_A ad cs.length) (vg_cw dA ad σ 0 cs) := by
  refine ⟨fun i j x y hx hy hxy => ?_, fun k q hk => ?_⟩
  · rw [vg_cw_at] at hx hy
    cases hi : cs[i]? with
    | none => rw [hi] at hx; cases hx
    | some ci =>
      cases hj : cs[j]? with
      | none => rw [hj] at hy; cases hy
      | some cj =>
        rw [hi] at hx
        rw [hj] at hy
        cases hx
        cases hy
        simp only [Nat.zero_add] at hxy
        exact hap i j (List.getElem?_eq_some_iff.mp hi).1 (List.getElem?_eq_some_iff.mp hj).1 hxy
  · rw [vg_cw_at] at hk
    cases hi : cs[k]? with
    | none => rw [hi] at hk; cases hk
    | some ci =>
      rw [hi] at hk
      cases hk
      exact ⟨k, (List.getElem?_eq_some_iff.mp hi).1, by simp⟩
/-! locals -/
def vg_la (ad : Nat → Nat) : Nat → vg_L → List (Nat × Value)
  | _, [] => []
  | i, none :: r => vg_la ad (i + 1) r
  | i, some v :: r => (i, vg_cv ad v) :: vg_la ad (i + 1) r
theorem vg_la_in (ad : Nat → Nat) : ∀ (L : vg_L) (i k : Nat) (v : Value), vg_nth L k = some (some v) → (i + k, vg_cv ad v) ∈ vg_la ad i L
  | [], i, k, v, h => by simp [vg_nth] at h
  | none :: r, i, 0, v, h => by simp [vg_nth] at h
  | some w :: r, i, 0, v, h => by
    simp only [vg_nth, Option.some.injEq] at h
    subst h
    exact List.mem_cons_self
  | none :: r, i, k + 1, v, h => by
    have h2 := vg_la_in ad r (i + 1) k v h
    rw [Nat.add_assoc, Nat.add_comm 1 k] at h2
    exact h2
  | some w :: r, i, k + 1, v, h => by
    have h2 := vg_la_in ad r (i + 1) k v h
    rw [Nat.add_assoc, Nat.add_comm 1 k] at h2
    exact List.mem_cons_of_mem _ h2
theorem vg_la_of (ad : Nat → Nat) : ∀ (L : vg_L) (i : Nat) (q : Nat × Value), q ∈ vg_la ad i L → ∃ (k : Nat) (v : Value), q = (i + k, vg_cv ad v) ∧ vg_nth L k = some (some v)
  | [], i, q, h => by cases h
  | none :: r, i, q, h => by
    obtain ⟨k, v, h1, h2⟩ := vg_la_of ad r (i + 1) q h
    exact ⟨k + 1, v, by rw [h1, Nat.add_assoc, Nat.add_comm 1 k], h2⟩
  | some w :: r, i, q, h => by
    rcases List.mem_cons.mp h with h | h
    · exact ⟨0, w, h, rfl⟩
    · obtain ⟨k, v, h1, h2⟩ := vg_la_of ad r (i + 1) q h
      exact ⟨k + 1, v, by rw [h1, Nat.add_assoc, Nat.add_comm 1 k], h2⟩
def vg_lr (ad : Nat → Nat) (ls : Array Slot) (nL : Nat) (L : vg_L) : Prop := lv_has ls nL (vg_la ad 0 L) ∧ L.length = nL
theorem vg_lr.at {ad : Nat → Nat} {ls : Array Slot} {nL : Nat} {L : vg_L} (h : vg_lr ad ls nL L) {k : Nat} {v : Value} (hk : vg_nth L k = some (some v)) : ls[k]? = some (.val (vg_cv ad v)) := by
  have h2 := h.1.2.2 _ (vg_la_in ad L 0 k v hk)
  simpa using h2
theorem vg_nth_lt {α : Type} {L : List α} {k : Nat} {x : α} (h : vg_nth L k = some x) : k < L.length := by
  rw [vg_nth_eq] at h
  exact (List.getElem?_eq_some_iff.mp h).1
theorem vg_s1_len : ∀ (L : vg_L) (i : Nat) (v : Value), (vg_s1 L i v).length = L.length
  | [], i, v => by simp [vg_s1]
  | x :: r, 0, v => by simp [vg_s1]
  | x :: r, 1, v => by simp [vg_s1, vg_s1_len r 0 v]
  | x :: r, i + 2, v => by simp [vg_s1, vg_s1_len r (i + 1) v]
theorem vg_k_some {x : Option Value} {w : Value} (h : vg_k x = some w) : x = some w ∧ ¬ w.category = 2 := by
  cases x with
  | none => simp [vg_k] at h
  | some y => cases y <;> simp [vg_k] at h <;> subst h <;> exact ⟨rfl, by simp [Value.category]⟩
theorem vg_s1_nth : ∀ (L : vg_L) (i : Nat) (v : Value) (k : Nat) (w : Value), vg_nth (vg_s1 L i v) k = some (some w) → (k = i ∧ w = v) ∨ (k ≠ i ∧ vg_nth L k = some (some w) ∧ ¬ (k + 1 = i ∧ w.category = 2))
  | [], i, v, k, w, h => by simp [vg_s1, vg_nth] at h
  | x :: r, 0, v, 0, w, h => by
    simp only [vg_s1, vg_nth, Option.some.injEq] at h
    exact Or.inl ⟨rfl, h.symm⟩
  | x :: r, 0, v, k + 1, w, h => Or.inr ⟨by omega, h, by omega⟩
  | x :: r, 1, v, 0, w, h => by
    simp only [vg_s1, vg_nth, Option.some.injEq] at h
    obtain ⟨h1, h2⟩ := vg_k_some h
    exact Or.inr ⟨by omega, by simp [vg_nth, h1], fun q => h2 q.2⟩
  | x :: r, 1, v, k + 1, w, h => by
    rcases vg_s1_nth r 0 v k w h with ⟨h1, h2⟩ | ⟨h1, h2, h3⟩
    · exact Or.inl ⟨by omega, h2⟩
    · exact Or.inr ⟨by omega, h2, by omega⟩
  | x :: r, i + 2, v, 0, w, h => Or.inr ⟨by omega, h, by omega⟩
  | x :: r, i + 2, v, k + 1, w, h => by
    rcases vg_s1_nth r (i + 1) v k w h with ⟨h1, h2⟩ | ⟨h1, h2, h3⟩
    · exact Or.inl ⟨by omega, h2⟩
    · exact Or.inr ⟨by omega, h2, fun q => h3 ⟨by omega, q.2⟩⟩
theorem vg_lr.s1 {ad : Nat → Nat} {ls ls' : Array Slot} {nL : Nat} {L : vg_L} (h : vg_lr ad ls nL L) {i : Nat} {v : Value} (h' : lv_has ls' nL ((i, vg_cv ad v) :: (vg_la ad 0 L).filter (fun q => !(q.1 == i) && !(q.1 + 1 == i && q.2.category == 2)))) : vg_lr ad ls' nL (vg_s1 L i v) := by
  refine ⟨⟨h'.1, h'.2.1, fun q hq => h'.2.2 q ?_⟩, by rw [vg_s1_len]; exact h.2⟩
  obtain ⟨k, w, rfl, hk⟩ := vg_la_of ad _ _ _ hq
  rw [Nat.zero_add]
  rcases vg_s1_nth L i v k w hk with ⟨rfl, rfl⟩ | ⟨h1, h2, h3⟩
  · exact List.mem_cons_self
  · refine List.mem_cons_of_mem _ (List.mem_filter.mpr ⟨by simpa using vg_la_in ad L 0 k w h2, ?_⟩)
    simp only [vg_cv_cat, Bool.and_eq_true, Bool.not_eq_true', Bool.and_eq_false_iff, beq_eq_false_iff_ne, ne_eq]
    refine ⟨h1, ?_⟩
    by_cases hk1 : k + 1 = i
    · exact Or.inr (fun q => h3 ⟨hk1, q⟩)
    · exact Or.inl hk1
theorem vg_s2_nth : ∀ (L : vg_L) (i : Nat) (v : Value) (k : Nat) (w : Value), vg_nth (vg_s2 L i v) k = some (some w) → (k = i ∧ w = v) ∨ (k ≠ i ∧ k ≠ i + 1 ∧ vg_nth L k = some (some w) ∧ ¬ (k + 1 = i ∧ w.category = 2))
  | [], i, v, k, w, h => by simp [vg_s2, vg_nth] at h
  | x :: r, 0, v, 0, w, h => by
    simp only [vg_s2, vg_nth, Option.some.injEq] at h
    exact Or.inl ⟨rfl, h.symm⟩
  | [x], 0, v, k + 1, w, h => by simp [vg_s2, vg_n0, vg_nth] at h
  | x :: y :: r, 0, v, 1, w, h => by simp [vg_s2, vg_n0, vg_nth] at h
  | x :: y :: r, 0, v, k + 2, w, h => Or.inr ⟨by omega, by omega, h, by omega⟩
  | x :: r, 1, v, 0, w, h => by
    simp only [vg_s2, vg_nth, Option.some.injEq] at h
    obtain ⟨h1, h2⟩ := vg_k_some h
    exact Or.inr ⟨by omega, by omega, by simp [vg_nth, h1], fun q => h2 q.2⟩
  | x :: r, 1, v, k + 1, w, h => by
    rcases vg_s2_nth r 0 v k w h with ⟨h1, h2⟩ | ⟨h1, h0, h2, h3⟩
    · exact Or.inl ⟨by omega, h2⟩
    · exact Or.inr ⟨by omega, by omega, h2, by omega⟩
  | x :: r, i + 2, v, 0, w, h => Or.inr ⟨by omega, by omega, h, by omega⟩
  | x :: r, i + 2, v, k + 1, w, h => by
    rcases vg_s2_nth r (i + 1) v k w h with ⟨h1, h2⟩ | ⟨h1, h0, h2, h3⟩
    · exact Or.inl ⟨by omega, h2⟩
    · exact Or.inr ⟨by omega, by omega, h2, fun q => h3 ⟨by omega, q.2⟩⟩
theorem vg_s2_len : ∀ (L : vg_L) (i : Nat) (v : Value), i + 1 < L.length → (vg_s2 L i v).length = L.length
  | [], i, v, h => by simp at h
  | [x], i, v, h => by simp at h
  | x :: y :: r, 0, v, h => by simp [vg_s2, vg_n0]
  | x :: r, 1, v, h => by
    have := vg_s2_len r 0 v (by simp at h; omega)
    simp [vg_s2, this]
  | x :: r, i + 2, v, h => by
    have := vg_s2_len r (i + 1) v (by simp at h; omega)
    simp [vg_s2, this]
theorem vg_lr.s2 {ad : Nat → Nat} {ls ls' : Array Slot} {nL : Nat} {L : vg_L} (h : vg_lr ad ls nL L) {i : Nat} {v : Value} (hi : i + 1 < L.length) (h' : lv_has ls' nL ((i, vg_cv ad v) :: (vg_la ad 0 L).filter (fun q => !(q.1 == i) && (!(q.1 == i + 1) && !(q.1 + 1 == i && q.2.category == 2))))) : vg_lr ad ls' nL (vg_s2 L i v) := by
  refine ⟨⟨h'.1, h'.2.1, fun q hq => h'.2.2 q ?_⟩, by rw [vg_s2_len _ _ _ hi]; exact h.2⟩
  obtain ⟨k, w, rfl, hk⟩ := vg_la_of ad _ _ _ hq
  rw [Nat.zero_add]
  rcases vg_s2_nth L i v k w hk with ⟨rfl, rfl⟩ | ⟨h1, h0, h2, h3⟩
  · exact List.mem_cons_self
  · refine List.mem_cons_of_mem _ (List.mem_filter.mpr ⟨by simpa using vg_la_in ad L 0 k w h2, ?_⟩)
    simp only [vg_cv_cat, Bool.and_eq_true, Bool.not_eq_true', Bool.and_eq_false_iff, beq_eq_false_iff_ne, ne_eq]
    refine ⟨h1, h0, ?_⟩
    by_cases hk1 : k + 1 = i
    · exact Or.inr (fun q => h3 ⟨hk1, q⟩)
    · exact Or.inl hk1
/-! arguments -/
theorem vg_args_eq : ∀ (n : Nat) (st acc : List Value), n ≤ st.length → vg_args n st acc = (st.take n).reverse ++ acc
  | 0, st, acc, _ => by simp [vg_args]
  | n + 1, [], acc, h => by simp at h
  | n + 1, v :: r, acc, h => by
    rw [vg_args, vg_args_eq n r (v :: acc) (by simp at h; omega)]
    simp
theorem vg_drop_eq : ∀ (n : Nat) (st : List Value), vg_drop n st = st.drop n
  | 0, st => by simp [vg_drop]
  | n + 1, [] => by simp [vg_drop]
  | n + 1, v :: r => by simp [vg_drop, vg_drop_eq n r]
theorem vg_stack (ad : Nat → Nat) (n : Nat) (st : List Value) (h : n ≤ st.length) : st.map (vg_cv ad) = ((vg_args n st []).map (vg_cv ad)).reverse ++ (vg_drop n st).map (vg_cv ad) := by
  rw [vg_args_eq n st [] h, vg_drop_eq, List.append_nil, List.map_reverse, List.reverse_reverse, ← List.map_append, List.take_append_drop]
theorem vg_args_len (n : Nat) (st : List Value) (h : n ≤ st.length) : (vg_args n st []).length = n := by
  rw [vg_args_eq n st [] h]
  simp
  omega
theorem vg_ix.in {i : Int32} {n : Nat} (h : vg_ix i n) : vp_in i n := by
  intro q
  obtain ⟨h1, h2⟩ := h
  rcases q with q | q
  · have := Int32.lt_iff_toInt_lt.mp q
    simp at this
    omega
  · have : i.toNatClampNeg = i.toInt.toNat := rfl
    omega
/-- the locals at a method's entry -/
def vg_l0 : List Value → vg_L
  | [] => []
  | .long x :: r => some (.long x) :: none :: vg_l0 r
  | .double x :: r => some (.double x) :: none :: vg_l0 r
  | v :: r => some v :: vg_l0 r
def vg_pad : Nat → vg_L → vg_L
  | 0, _ => []
  | n + 1, [] => none :: vg_pad n []
  | n + 1, x :: r => x :: vg_pad n r
theorem vg_pad_len : ∀ (n : Nat) (L : vg_L), (vg_pad n L).length = n
  | 0, L => by cases L <;> rfl
  | n + 1, [] => by simp [vg_pad, vg_pad_len n []]
  | n + 1, x :: r => by simp [vg_pad, vg_pad_len n r]
theorem vg_pad_nil_nth : ∀ (n k : Nat) (v : Value), vg_nth (vg_pad n []) k = some (some v) → False
  | 0, k, v, h => by simp [vg_pad, vg_nth] at h
  | n + 1, 0, v, h => by simp [vg_pad, vg_nth] at h
  | n + 1, k + 1, v, h => vg_pad_nil_nth n k v h
theorem vg_pad_nth : ∀ (n : Nat) (L : vg_L) (k : Nat) (v : Value), vg_nth (vg_pad n L) k = some (some v) → vg_nth L k = some (some v)
  | 0, L, k, v, h => by cases L <;> simp [vg_pad, vg_nth] at h
  | n + 1, [], k, v, h => (vg_pad_nil_nth (n + 1) k v h).elim
  | n + 1, x :: r, 0, v, h => h
  | n + 1, x :: r, k + 1, v, h => vg_pad_nth n r k v h
theorem vg_l0_in (ad : Nat → Nat) : ∀ (as : List Value) (i k : Nat) (v : Value), vg_nth (vg_l0 as) k = some (some v) → (i + k, vg_cv ad v) ∈ lv_args i (as.map (vg_cv ad)) := by
  intro as
  induction as with
  | nil => intro i k v h; simp [vg_l0, vg_nth] at h
  | cons a r ih =>
    intro i k v h
    have one : ∀ b : Value, b.category = 1 → vg_nth (some b :: vg_l0 r) k = some (some v) → (i + k, vg_cv ad v) ∈ lv_args i ((b :: r).map (vg_cv ad)) := by
      intro b hb hk
      simp only [List.map_cons, lv_args, vg_cv_cat, hb]
      match k, hk with
      | 0, hk =>
        simp only [vg_nth, Option.some.injEq] at hk
        subst hk
        exact List.mem_cons_self
      | k + 1, hk =>
        have := ih (i + 1) k v hk
        rw [Nat.add_assoc, Nat.add_comm 1 k] at this
        exact List.mem_cons_of_mem _ this
    have two : ∀ b : Value, b.category = 2 → vg_nth (some b :: none :: vg_l0 r) k = some (some v) → (i + k, vg_cv ad v) ∈ lv_args i ((b :: r).map (vg_cv ad)) := by
      intro b hb hk
      simp only [List.map_cons, lv_args, vg_cv_cat, hb]
      match k, hk with
      | 0, hk =>
        simp only [vg_nth, Option.some.injEq] at hk
        subst hk
        exact List.mem_cons_self
      | 1, hk => simp [vg_nth] at hk
      | k + 2, hk =>
        have := ih (i + 2) k v hk
        rw [Nat.add_assoc, Nat.add_comm 2 k] at this
        exact List.mem_cons_of_mem _ this
    cases a with
    | int x => exact one _ rfl h
    | long x => exact two _ rfl h
    | float x => exact one _ rfl h
    | double x => exact two _ rfl h
    | null => exact one _ rfl h
    | ref x => exact one _ rfl h
    | retAddr x => exact one _ rfl h
theorem vg_entry (ad : Nat → Nat) (as : List Value) (n : Nat) (h : (lg_sl (as.map (vg_cv ad))).length ≤ n) : vg_lr ad ((lg_sl (as.map (vg_cv ad)) ++ List.replicate (n - (lg_sl (as.map (vg_cv ad))).length) Slot.unset).toArray) n (vg_pad n (vg_l0 as)) := by
  have h1 := lv_entry (as.map (vg_cv ad)) (n := n) h
  refine ⟨⟨h1.1, h1.2.1, fun q hq => h1.2.2 q ?_⟩, vg_pad_len _ _⟩
  obtain ⟨k, v, rfl, hk⟩ := vg_la_of ad _ _ _ hq
  exact vg_l0_in ad as 0 k v (vg_pad_nth _ _ _ _ hk)
theorem vg_mask_nth : ∀ (ms : List Bool) (L : vg_L) (k : Nat) (v : Value), vg_nth (vg_mask ms L) k = some (some v) → vg_nth L k = some (some v)
  | ms, [], k, v, h => by cases ms <;> simp [vg_mask, vg_nth] at h
  | [], x :: r, 0, v, h => by simp [vg_mask, vg_nth] at h
  | true :: b, x :: r, 0, v, h => h
  | false :: b, x :: r, 0, v, h => by simp [vg_mask, vg_nth] at h
  | [], x :: r, k + 1, v, h => vg_mask_nth [] r k v h
  | true :: b, x :: r, k + 1, v, h => vg_mask_nth b r k v h
  | false :: b, x :: r, k + 1, v, h => vg_mask_nth b r k v h
theorem vg_mask_len : ∀ (ms : List Bool) (L : vg_L), (vg_mask ms L).length = L.length
  | ms, [] => by cases ms <;> simp [vg_mask]
  | [], x :: r => by simp [vg_mask, vg_mask_len [] r]
  | true :: b, x :: r => by simp [vg_mask, vg_mask_len b r]
  | false :: b, x :: r => by simp [vg_mask, vg_mask_len b r]
theorem vg_lr.mask {ad : Nat → Nat} {ls : Array Slot} {nL : Nat} {L : vg_L} (h : vg_lr ad ls nL L) (ms : List Bool) : vg_lr ad ls nL (vg_mask ms L) := by
  refine ⟨⟨h.1.1, h.1.2.1, fun q hq => h.1.2.2 q ?_⟩, by rw [vg_mask_len]; exact h.2⟩
  obtain ⟨k, w, rfl, hk⟩ := vg_la_of ad _ _ _ hq
  exact vg_la_in ad L 0 k w (vg_mask_nth ms L k w hk)
theorem vg_lkp_in : ∀ (l : List (Nat × vg_V)) (h : Nat) (iv : vg_V), vg_lkp l h = some iv → (h, iv) ∈ l
  | [], h, iv, e => by cases e
  | q :: r, h, iv, e => by
    unfold vg_lkp at e
    split at e
    · rename_i hb
      cases e
      have := Nat.eq_of_beq_eq_true hb
      subst this
      exact List.mem_cons_self
    · exact List.mem_cons_of_mem _ (vg_lkp_in r h iv e)
end
section

/-! THE WALKER IS SOUND -/
theorem vg_b_if_eq {x : Int32} : (x = 0) ↔ vg_c0 .eq x := by
  simp only [vg_c0, Int32.lt_iff_toInt_lt, Int32.le_iff_toInt_le, ← Int32.toInt_inj]
  simp
theorem vg_b_if_ne {x : Int32} : (¬ x = 0) ↔ vg_c0 .ne x := by
  simp only [vg_c0, Int32.lt_iff_toInt_lt, Int32.le_iff_toInt_le, ← Int32.toInt_inj]
  simp
theorem vg_b_if_lt {x : Int32} : (x < 0) ↔ vg_c0 .lt x := by
  simp only [vg_c0, Int32.lt_iff_toInt_lt, Int32.le_iff_toInt_le, ← Int32.toInt_inj]
  simp
theorem vg_b_if_ge {x : Int32} : (0 ≤ x) ↔ vg_c0 .ge x := by
  simp only [vg_c0, Int32.lt_iff_toInt_lt, Int32.le_iff_toInt_le, ← Int32.toInt_inj]
  simp
theorem vg_b_if_gt {x : Int32} : (0 < x) ↔ vg_c0 .gt x := by
  simp only [vg_c0, Int32.lt_iff_toInt_lt, Int32.le_iff_toInt_le, ← Int32.toInt_inj]
  simp
theorem vg_b_if_le {x : Int32} : (x ≤ 0) ↔ vg_c0 .le x := by
  simp only [vg_c0, Int32.lt_iff_toInt_lt, Int32.le_iff_toInt_le, ← Int32.toInt_inj]
  simp
theorem vg_b_icmp_eq {x y : Int32} : (x = y) ↔ vg_c2 .eq x y := by
  simp only [vg_c2, Int32.lt_iff_toInt_lt, Int32.le_iff_toInt_le, ← Int32.toInt_inj]
theorem vg_b_icmp_ne {x y : Int32} : (¬ x = y) ↔ vg_c2 .ne x y := by
  simp only [vg_c2, Int32.lt_iff_toInt_lt, Int32.le_iff_toInt_le, ← Int32.toInt_inj]
theorem vg_b_icmp_lt {x y : Int32} : (x < y) ↔ vg_c2 .lt x y := by
  simp only [vg_c2, Int32.lt_iff_toInt_lt, Int32.le_iff_toInt_le, ← Int32.toInt_inj]
theorem vg_b_icmp_ge {x y : Int32} : (y ≤ x) ↔ vg_c2 .ge x y := by
  simp only [vg_c2, Int32.lt_iff_toInt_lt, Int32.le_iff_toInt_le, ← Int32.toInt_inj]
theorem vg_b_icmp_gt {x y : Int32} : (y < x) ↔ vg_c2 .gt x y := by
  simp only [vg_c2, Int32.lt_iff_toInt_lt, Int32.le_iff_toInt_le, ← Int32.toInt_inj]
theorem vg_b_icmp_le {x y : Int32} : (x ≤ y) ↔ vg_c2 .le x y := by
  simp only [vg_c2, Int32.lt_iff_toInt_lt, Int32.le_iff_toInt_le, ← Int32.toInt_inj]
def vg_GW : List Cond := lw_tbl.filter goodWord
def vg_wd (i : Nat) (w : Cond) : Bool := decide (vg_nth lw_tbl i = some w) && goodWord w
theorem vg_wd_in {i : Nat} {w : Cond} (h : vg_wd i w = true) : w ∈ vg_GW := by
  simp only [vg_wd, Bool.and_eq_true, decide_eq_true_eq, vg_nth_eq] at h
  exact List.mem_filter.mpr ⟨List.mem_of_getElem? h.1, h.2⟩
theorem vg_GW_good : GoodIn vg_GW vg_GW := fun w h => ⟨h, good_of_word (List.mem_filter.mp h).2⟩
/-- links to a nest mate's private methods -/
def vg_nest : List Cond := [.methodLinkNest "NoiseShaper$Taps" 13 yX10_within "NoiseShaper", .methodLinkNest "NoiseShaper$Source" 23 yX10_putTo "NoiseShaper", .methodLinkNest "NoiseShaper$Loop" 149 yX10_putTo "NoiseShaper", .methodLinkNest "NoiseShaper$Elements" 103 yX10_putTo "NoiseShaper"]
def vg_stat : List (Nat × String) := [(100, "SHORT"), (101, "MIDDLE"), (102, "LONG")]
/-- the static rows of taps -/
def vg_ro0 (k : Nat) : Option (Nat × (Nat → Int32)) := match k with
  | 100 => some (3, fun j => ([1, 2, 1] : List Int32).getD j 0)
  | 101 => some (7, fun j => ([-1, 0, 9, 16, 9, 0, -1] : List Int32).getD j 0)
  | 102 => some (11, fun j => ([3, 0, -25, 0, 150, 256, 150, 0, -25, 0, 3] : List Int32).getD j 0)
  | _ => none
def vg_len (op : Instr) (n : Nat) : Nat := match op with
  | .bipush _ => 2
  | .sipush _ => 3
  | .ldc _ => 2
  | .ldc_w _ => 3
  | .ldc2_w _ => 3
  | .iload _ => 2
  | .lload _ => 2
  | .aload _ => 2
  | .istore _ => 2
  | .lstore _ => 2
  | .astore _ => 2
  | .iinc _ _ => 3
  | .goto _ => 3
  | .ifCond _ _ => 3
  | .if_icmp _ _ => 3
  | .getfield _ => 3
  | .putfield _ => 3
  | .getstatic _ => 3
  | .invokevirtual _ => 3
  | .invokestatic _ => 3
  | .tableswitch _ _ _ _ => n
  | .lookupswitch _ _ => n
  | _ => 1
def vg_zt (z : Int) : FieldType := match z with
  | .ofNat 0 => .int
  | .ofNat 1 => .boolean
  | _ => .long
/-- what an instruction links is in the tables -/
def vg_lks (own : String) (cs : List vg_R) (rt : Option FieldType) (cp : Bool) (op : Instr) (a b c : Nat) (z : Int) : Bool := match op with
  | .bipush n => decide ((Int8.ofInt n).toInt32 = Int32.ofInt n)
  | .sipush n => decide ((Int16.ofInt n).toInt32 = Int32.ofInt n)
  | .ldc i => vg_wd a (.constant own i (Int32.ofInt z))
  | .ldc_w i => vg_wd a (.constant own i (Int32.ofInt z))
  | .ldc2_w i => vg_wd a (.constantLong own i (Int64.ofInt z))
  | .getfield i => (match vg_nth vwCl b with
    | some q => Nat.blt c q.2.2 && vg_wd a (.fieldLink own i (q.2.1 c).1 (q.2.1 c).2.1 (q.2.1 c).2.2.1)
    | none => false)
  | .putfield i => (match vg_nth vwCl b with
    | some q => Nat.blt c q.2.2 && vg_wd a (.fieldLink own i (q.2.1 c).1 (q.2.1 c).2.1 (q.2.1 c).2.2.1) && !(q.2.1 c).2.2.2 && decide (parseFieldDescriptor (q.2.1 c).2.2.1 = some (vg_zt z))
    | none => false)
  | .getstatic i => (match vg_nth vg_stat b with
    | some q => Nat.beq q.1 a && vg_wd z.toNat (.fieldLink own i "NoiseShaper$Taps" q.2 "[I")
    | none => false)
  | .invokevirtual i => (match vg_nth cs a, vg_nth vwCl b with
    | some r, some q => vg_wd z.toNat (.methodLink own i r.1.1) && decide (r.1.1.cls = q.1) && decide ((parseMethodDescriptor r.1.1.desc).map (fun d => d.parameters.length) = some c) && !r.1.2.2.2.2.2.2.2.2
    | _, _ => false)
  | .invokestatic i => (match b with
    | 1 => (match vg_nth cs a with
      | some r => vg_wd z.toNat (.methodLink own i r.1.1) && decide ((parseMethodDescriptor r.1.1.desc).map (fun d => d.parameters.length) = some c) && r.1.2.2.2.2.2.2.2.2
      | none => false)
    | 2 => (match vg_nth cs a with
      | some r => decide (vg_nth vg_nest z.toNat = some (.methodLinkNest own i r.1.1 "NoiseShaper")) && decide ((parseMethodDescriptor r.1.1.desc).map (fun d => d.parameters.length) = some c) && r.1.2.2.2.2.2.2.2.2
      | none => false)
    | 3 => cp && vg_wd z.toNat (.methodLink own i arraycopyName)
    | _ => false)
  | .ireturn => decide (rt = some (vg_zt z))
  | .lreturn => decide (rt = some .long)
  | .areturn => decide (rt = some (.array .int))
  | .return_ => decide (rt = none)
  | .lookupswitch _ ps => (ps.toList.zip (ps.toList.drop 1)).all (fun (a, next) => a.1 < next.1)
  | .tableswitch _ lo hi offs => decide (hi - lo + 1 = (offs.toList.length : Int))
  | _ => true
/-- targets lie within -/
def vg_tg (pc : Nat) (op : Instr) : Bool := match op with
  | .goto o => decide (0 ≤ (pc : Int) + o)
  | .ifCond _ o => decide (0 ≤ (pc : Int) + o)
  | .if_icmp _ o => decide (0 ≤ (pc : Int) + o)
  | .tableswitch d _ _ offs => decide (0 ≤ (pc : Int) + d) && offs.toList.all (fun o => decide (0 ≤ (pc : Int) + o))
  | .lookupswitch d ps => decide (0 ≤ (pc : Int) + d) && ps.toList.all (fun o => decide (0 ≤ (pc : Int) + o.2))
  | _ => true
def vg_ok (own : String) (cc : ByteArray) (cs : List vg_R) (rt : Option FieldType) (cp : Bool) (q : vg_I) : Bool := match q with
  | (pc, op, len, a, b, c, z) => decide (decode cc pc = .ok (op, len)) && Nat.beq len (vg_len op len) && vg_lks own cs rt cp op a b c z && vg_tg pc op
theorem vg_ok_spec {own : String} {cc : ByteArray} {cs : List vg_R} {rt : Option FieldType} {cp : Bool} {pc len a b c : Nat} {op : Instr} {z : Int} (h : vg_ok own cc cs rt cp (pc, op, len, a, b, c, z) = true) : decode cc pc = .ok (op, len) ∧ len = vg_len op len ∧ vg_lks own cs rt cp op a b c z = true ∧ vg_tg pc op = true := by
  simp only [vg_ok, Bool.and_eq_true, decide_eq_true_eq] at h
  exact ⟨h.1.1.1, Nat.eq_of_beq_eq_true h.1.1.2, h.1.2, h.2⟩
def vg_chain : List vg_I → Bool
  | [] => true
  | q :: r => (match r with
    | [] => true
    | q2 :: _ => Nat.beq (q.1 + q.2.2.1) q2.1) && vg_chain r
/-! contracts -/
def vg_ty (dA : Nat → ClassId) : List (ClassId × FieldType) := [(dA 0, .int), (dA 1, .long), (dA 2, .object "NoiseShaper$Fold"), (dA 3, .object "NoiseShaper$Latest")]
/-- what stays as it is: the tables, links to nest mates, rows that nobody writes -/
def vg_E (G : vg_G) (sh : List vg_C) (ro : Nat → Option (Nat × (Nat → Int32))) (U : State) : Prop := va_K G.1 vwCl (vg_ty G.2.1) U ∧ (∀ w ∈ vg_nest, va_Nw w U) ∧ (∀ k n f, ro k = some (n, f) → va_T .int (G.2.2 k) n (fun j => .int (f j)) (vg_A G.2.2 sh.length) U U.heap) ∧ ∀ q ∈ vg_stat, va_Z "NoiseShaper$Taps" q.2 "[I" (.ref (G.2.2 q.1)) (vg_A G.2.2 sh.length) U U.heap
theorem vg_nest_warm {s U : State} (hW : s.WarmedH U.vm) (h : ∀ w ∈ vg_nest, va_Nw w s) : ∀ w ∈ vg_nest, va_Nw w U := by
  intro w hw
  have h1 := h w hw
  simp only [vg_nest, List.mem_cons, List.not_mem_nil, or_false] at hw
  rcases hw with rfl | rfl | rfl | rfl <;> exact va_Nw.warmM hW h1
theorem vg_nest_same {s U : State} (hW : s.vm = U.vm) (h : ∀ w ∈ vg_nest, va_Nw w s) : ∀ w ∈ vg_nest, va_Nw w U := by
  intro w hw
  have h1 := h w hw
  simp only [vg_nest, List.mem_cons, List.not_mem_nil, or_false] at hw
  rcases hw with rfl | rfl | rfl | rfl <;> exact va_Nw.same rfl hW h1
theorem vg_E.go {G : vg_G} {sh : List vg_C} {ro ro' : Nat → Option (Nat × (Nat → Int32))} {s U : State} {H : Heap} {locs : List Loc} (h : vg_E G sh ro s) (hro : ∀ k x, ro' k = some x → ro k = some x) (hS : va_S (vg_A G.2.2 sh.length) s.heap H locs) (hU : U.heap = H) (hW : s.WarmedH U.vm) : vg_E G sh ro' U := by
  obtain ⟨h1, h2, h3, h4⟩ := h
  refine ⟨va_K.moved hW.alike h1, vg_nest_warm hW h2, fun k n f hk => ?_, fun q hq => ?_⟩
  · rw [hU]
    exact ((h3 k n f (hro k _ hk)).moved hW.alike).kept (fun a ha hn => hS.2.1 a ha hn)
  · rw [hU]
    exact ((h4 q hq).moved hW.alike).kept (fun a ha hn => hS.2.1 a ha hn)
theorem vg_E.blind {G : vg_G} {sh : List vg_C} {ro : Nat → Option (Nat × (Nat → Int32))} {U : State} (g : JFrame) (mk : MethodId) (a : Array Value) (h : vg_E G sh ro U) : vg_E G sh ro (U.calling g mk a) := by
  obtain ⟨h1, h2, h3, h4⟩ := h
  exact ⟨va_K.moved (u := U) (U := U.calling g mk a) (Vm.Alike.refl U.vm) h1, vg_nest_same (s := U) (U := U.calling g mk a) rfl h2, fun k n f hk => (h3 k n f hk).moved (u := U) (U := U.calling g mk a) (Vm.Alike.refl U.vm), fun q hq => (h4 q hq).moved (u := U) (U := U.calling g mk a) (Vm.Alike.refl U.vm)⟩
def vg_rf (r : vg_R) (v : Option Value) : Prop := match r.1.2.2.2.2.2.2.1 with
  | 0 => v = none
  | 1 => ∃ x, v = some (.int x)
  | 2 => ∃ x, v = some (.long x)
  | _ => ∃ k, k ∈ r.1.2.2.2.2.2.2.2.1 ∧ v = some (.ref k)
abbrev vg_P (G : vg_G) (sh : List vg_C) (σ : vg_S) (H : Heap) : Prop := va_P G.1 vwCl (vg_cw G.2.1 G.2.2 σ 0 sh) H
def vg_Q (G : vg_G) (sh : List vg_C) (r : vg_R) (as : List Value) (σ : vg_S) : Array Value → State → Outcome → State → Prop := fun _ st oc t => (∃ (v : Option Value) (σ' : vg_S), oc = .returned (v.map (vg_cv G.2.2)) ∧ vg_rf r v ∧ r.2.2 as σ v σ' ∧ vg_P G sh σ' t.heap) ∧ va_F (vg_A G.2.2 sh.length) st t
def vg_rok (r : vg_R) : Prop := Cond.code r.1.1 r.1.2.1 r.1.2.2.1 r.1.2.2.2.1 ∈ vg_GW ∧ Cond.initialized r.1.1.cls ∈ vg_GW ∧ (r.1.1.cls ≠ "java/lang/invoke/MethodHandle" ∧ r.1.1.cls ≠ "java/lang/invoke/VarHandle") ∧ plainFor r.1.1 = true ∧ (match r.1.2.2.2.2.2.2.2.2 with
  | true => Cond.static r.1.1 ∈ vg_GW
  | false => Cond.instanceMethod r.1.1 ∈ vg_GW ∧ Cond.selects r.1.1.cls r.1.1 r.1.1 ∈ vg_GW)
/-- a method keeps its word -/
def vg_Ct (l : Launch) (G : vg_G) (sh : List vg_C) (r : vg_R) : Prop := vg_rok r ∧ ∀ (as : List Value) (σ : vg_S), r.2.1 as σ → Met l r.1.1 (.code r.1.1 r.1.2.1 r.1.2.2.1 r.1.2.2.2.1 :: vg_GW) ({ frames := r.1.2.2.2.2.1, cells := 0, slots := 0, locals := r.1.2.2.2.2.2.1 }) (va_Pc (as.map (vg_cv G.2.2)) (fun U => vg_P G sh σ U.heap ∧ vg_E G sh vg_ro0 U)) (vg_Q G sh r as σ) 0 0 (vg_A G.2.2 sh.length)
def vg_isret (op : Instr) (z : Int) (v : Option Value) : Prop := match op, z, v with
  | .ireturn, .ofNat 0, some (.int _) => True
  | .ireturn, .ofNat 1, some (.int x) => x = 0 ∨ x = 1
  | .lreturn, _, some (.long _) => True
  | .areturn, _, some (.ref _) => True
  | .return_, _, none => True
  | _, _, _ => False
section VGS
variable {p : Program} {l : Launch} {e : Env} {R : Room} {s : State} {m : MethodId} {args : Array Value} {below : List Frame} {meth : Method} {c : Code} {cells slots : Nat} {Q : State → Prop}
variable {own : String} {cc : ByteArray} {nL : Nat} {G : vg_G} {sh : List vg_C} {ro : Nat → Option (Nat × (Nat → Int32))} {cs : List vg_R} {cp : Bool} {rt : Option FieldType} {po : Option Value → vg_S → Prop}
/-- where a walk stands -/
def vg_X (p : Program) (l : Launch) (R : Room) (s : State) (m : MethodId) (args : Array Value) (c : Code) (cells slots : Nat) (own : String) (cc : ByteArray) (nL : Nat) (G : vg_G) (sh : List vg_C) (ro : Nat → Option (Nat × (Nat → Int32))) (cs : List vg_R) (cp : Bool) : Prop :=
  p.tables.exec = Jvm.exec ∧ c.code = cc ∧ c.maxLocals = nL ∧ s.vm.findClass own = some m.cls ∧ (∀ w ∈ vg_GW, w.before args s = true) ∧ (∀ i j, i < sh.length → j < sh.length → G.2.2 i = G.2.2 j → i = j) ∧ vg_E G sh ro s ∧ (∀ k x, vg_ro0 k = some x → ro k = some x) ∧
  (∀ r ∈ cs, vg_Ct l G sh r ∧ r.1.2.2.2.2.1 + 1 ≤ R.frames ∧ 8 + (r.1.2.2.1 + 11) + r.1.2.2.2.2.2.1 ≤ R.locals) ∧ (cp = true → 1 ≤ R.frames ∧ 8 + (nativeFrameWords "java/lang/System" "arraycopy" 5 + 11) ≤ R.locals ∧ (Cond.native arraycopyName).before args s = true ∧ (Cond.static arraycopyName).before args s = true ∧ (Cond.initialized "java/lang/System").before args s = true) ∧ cells ≤ R.cells ∧ slots ≤ R.slots
/-- the classes' words -/
theorem vg_cls {b : Nat} {q : vw_C} (h : vg_nth vwCl b = some q) : (∀ w ∈ u_ws q.1 q.2.1 q.2.2, w ∈ vg_GW) ∧ (∀ a, a < q.2.2 → ∀ b, b < q.2.2 → a ≠ b → (q.2.1 a).2.1 ≠ (q.2.1 b).2.1) ∧ ∃ ty : Nat → FieldType, ∀ k, k < q.2.2 → parseFieldDescriptor (q.2.1 k).2.2.1 = some (ty k) := by
  have good : ∀ (C : String) (T : u_T) (N : Nat), (∀ w ∈ u_ws C T N, w ∈ lw_tbl) → ∀ w ∈ u_ws C T N, w ∈ vg_GW := by
    intro C T N hin w hw
    refine List.mem_filter.mpr ⟨hin w hw, ?_⟩
    obtain ⟨k, -, rfl⟩ := List.mem_map.mp hw
    unfold u_lay
    split <;> rfl
  match b, h with
  | 0, h => cases h; exact ⟨good _ _ _ inX0, nmX0, tyX0, tyX0_ok⟩
  | 1, h => cases h; exact ⟨good _ _ _ inX1, nmX1, tyX1, tyX1_ok⟩
  | 2, h => cases h; exact ⟨good _ _ _ inX2, nmX2, tyX2, tyX2_ok⟩
  | 3, h => cases h; exact ⟨good _ _ _ inX3, nmX3, tyX3, tyX3_ok⟩
  | 4, h => cases h; exact ⟨good _ _ _ inX4, nmX4, tyX4, tyX4_ok⟩
  | 5, h => cases h; exact ⟨good _ _ _ inX5, nmX5, tyX5, tyX5_ok⟩
  | 6, h => cases h; exact ⟨good _ _ _ inX6, nmX6, tyX6, tyX6_ok⟩
  | 7, h => cases h; exact ⟨good _ _ _ inX7, nmX7, tyX7, tyX7_ok⟩
  | 8, h => cases h; exact ⟨good _ _ _ inX8, nmX8, tyX8, tyX8_ok⟩
  | 9, h => cases h; exact ⟨good _ _ _ inX9, nmX9, tyX9, tyX9_ok⟩
  | 10, h => cases h; exact ⟨good _ _ _ inX10, nmX10, tyX10, tyX10_ok⟩
  | 11, h => cases h; exact ⟨good _ _ _ inX11, nmX11, tyX11, tyX11_ok⟩
  | n + 12, h => cases h
theorem vg_nr {z : Int} {x : Int32} (h : z = 0 ∨ (z = 1 ∧ (x = 0 ∨ x = 1))) : narrow (vg_zt z) (.int x) = .int x ∧ fits (vg_zt z) (.int x) = true := by
  rcases h with rfl | ⟨rfl, rfl | rfl⟩ <;> exact ⟨rfl, rfl⟩
/-- behind a call -/
theorem vg_cont {H : Heap} {locs : List Loc} {pc : Nat} {ls : Array Slot} {st0 rest as : List Value} {σ : vg_S} {r : vg_R} {aa : Array Value} (hr : va_Run p l e R s m args below meth c H locs cells slots 0 0 (F0 m pc ls st0) rest (vg_Q G sh r as σ aa) (vg_A G.2.2 sh.length)) (hS : va_S (vg_A G.2.2 sh.length) s.heap H locs)
    (kk : ∀ (v : Option Value) (σ' : vg_S) (H1 : Heap) (locs1 : List Loc), vg_rf r v → r.2.2 as σ v σ' → vg_P G sh σ' H1 → va_S (vg_A G.2.2 sh.length) s.heap H1 locs1 → W p l e R s m args below meth c H1 locs1 cells slots Q (F0 m (pc + 3) ls ((v.map (vg_cv G.2.2)).toList ++ rest))) : W p l e R s m args below meth c H locs cells slots Q (F0 m pc ls st0) := by
  intro T hT X
  obtain ⟨v0, st₀, t, T', L, h0, X', hL, e1, e2, ⟨⟨v, σ', hv, hf, hp, hb⟩, hz, hk⟩, st⟩ := hr T hT X
  cases hv
  rw [h0] at hz hk
  obtain ⟨t2, a1, b1⟩ := kk v σ' T'.heap (locs ++ L) hf hp (by rw [e1]; exact hb)
    ⟨Nat.le_trans hS.1 (by rw [e1]; exact hz), fun q h1 h2 => by rw [e1, hk q (Nat.lt_of_lt_of_le h1 hS.1) h2]; exact hS.2.1 q h1 h2, fun q hq => by
      rcases List.mem_append.mp hq with h | h
      · exact hS.2.2 q h
      · exact hL q h⟩ T' rfl X'
  exact ⟨t2, st t2 a1, b1⟩
theorem vg_pre {σ : vg_S} {H : Heap} {locs : List Loc} (hE : vg_E G sh ro s) (hro : ∀ k x, vg_ro0 k = some x → ro k = some x) (hP : vg_P G sh σ H) (hS : va_S (vg_A G.2.2 sh.length) s.heap H locs) (as : List Value) : PreS s H (va_Pc (as.map (vg_cv G.2.2)) (fun U => vg_P G sh σ U.heap ∧ vg_E G sh vg_ro0 U)) (as.map (vg_cv G.2.2)) := by
  refine ⟨fun a U g mk q => ⟨q.1, q.2.1, q.2.2.blind g mk a⟩, fun U hU hW => ⟨rfl, by rw [hU]; exact hP, hE.go hro hS hU hW⟩⟩
theorem vg_sig {y : MethodName} {n : Nat} (h : (parseMethodDescriptor y.desc).map (fun d => d.parameters.length) = some n) : ∀ sig, parseMethodDescriptor y.desc = some sig → n = sig.parameters.length := by
  intro sig hs
  rw [hs] at h
  exact (Option.some.inj h).symm
/-- the answer of a call, by its kind -/
theorem vg_ans {r : vg_R} {as rest : List Value} {σ σ' : vg_S} {v : Option Value} {K : List Value → vg_S → Prop} (h : vg_call r as rest σ K) (hf : vg_rf r v) (hp : r.2.2 as σ v σ') : K (v.toList ++ rest) σ' := by
  obtain ⟨-, -, h⟩ := h
  unfold vg_rf at hf
  split at h
  · rename_i hk
    rw [hk] at hf
    have hf : v = none := hf
    subst hf
    exact h σ' hp
  · rename_i hk
    rw [hk] at hf
    obtain ⟨x, rfl⟩ : ∃ x, v = some (.int x) := hf
    exact h x σ' hp
  · rename_i hk
    rw [hk] at hf
    obtain ⟨x, rfl⟩ : ∃ x, v = some (.long x) := hf
    exact h x σ' hp
  · rename_i h0 h1 h2
    split at hf
    · exact (h0 ‹_›).elim
    · exact (h1 ‹_›).elim
    · exact (h2 ‹_›).elim
    · obtain ⟨k, hk, rfl⟩ := hf
      generalize r.1.2.2.2.2.2.2.2.1 = refs at h hk
      induction refs with
      | nil => cases hk
      | cons a t ih =>
        rcases List.mem_cons.mp hk with rfl | hk
        · exact h.1 σ' hp
        · exact ih h.2 hk
theorem vg_toList (ad : Nat → Nat) (v : Option Value) (rest : List Value) : (v.map (vg_cv ad)).toList ++ rest.map (vg_cv ad) = (v.toList ++ rest).map (vg_cv ad) := by
  cases v <;> rfl
theorem vg_goV {H : Heap} {locs : List Loc} {ls : Array Slot} {pc a b n i : Nat} {z : Int} {L : vg_L} {st rest : List Value} {σ : vg_S} {o ci : Nat} {ks : List Nat} {r : vg_R} {K : List Value → vg_S → Prop} (X : vg_X p l R s m args c cells slots own cc nL G sh ro cs cp) (hdg : decode cc pc = .ok (.invokevirtual i, 3)) (hlk : vg_lks own cs rt cp (.invokevirtual i) a b n z = true)
    (hl : vg_lr G.2.2 ls nL L) (hP : vg_P G sh σ H) (hS : va_S (vg_A G.2.2 sh.length) s.heap H locs) (hr : vg_nth cs a = some r) (hd : vg_drop n st = .ref o :: rest) (ho : vg_nth sh o = some (.inr (ci, ks))) (hci : Nat.beq ci b = true) (hn : Nat.ble n st.length = true) (h : vg_call r (.ref o :: vg_args n st []) rest σ K)
    (kK : ∀ st σ H locs, K st σ → vg_P G sh σ H → va_S (vg_A G.2.2 sh.length) s.heap H locs → W p l e R s m args below meth c H locs cells slots Q (F0 m (pc + 3) ls (st.map (vg_cv G.2.2)))) : W p l e R s m args below meth c H locs cells slots Q (F0 m pc ls (st.map (vg_cv G.2.2))) := by
  obtain ⟨hx, hb, hml, hown, hts, hap, hE, hro, hcs, -, hc1, hc2⟩ := X
  have hci : ci = b := Nat.eq_of_beq_eq_true hci
  subst hci
  have hn : n ≤ st.length := Nat.le_of_ble_eq_true hn
  have hmem : r ∈ cs := by rw [vg_nth_eq] at hr; exact List.mem_of_getElem? hr
  obtain ⟨⟨⟨hcode, hini, hnm, hpl, hin⟩, hM⟩, hfr, hlo⟩ := hcs r hmem
  simp only [vg_lks, hr] at hlk
  split at hlk
  · rename_i r' q hr' hq
    cases hr'
    simp only [Bool.and_eq_true, decide_eq_true_eq, Bool.not_eq_true'] at hlk
    obtain ⟨⟨⟨h1, h2⟩, h3⟩, h4⟩ := hlk
    rw [h4] at hin
    obtain ⟨hin1, hin2⟩ := hin
    have hstk := vg_stack G.2.2 n st hn
    rw [hd] at hstk
    have ho2 : (vg_cw G.2.1 G.2.2 σ 0 sh)[o]? = some (G.2.2 o, .inr (ci, vg_fl G.2.2 (σ.1 o) (σ.2 o) 0 ks)) := by
      rw [vg_cw_at, ← vg_nth_eq, ho]
      simp [vg_ce]
    have hrec := va_recv (q := q) (q0 := o) hE.1 hP (by rw [← vg_nth_eq]; exact hq) ho2
    rw [← h2] at hrec
    have hws := pay_in hts (fun w hw => (show w ∈ vg_GW ∧ _ from (List.mem_cons.mp hw).elim (fun e => by rw [e]; exact vg_GW_good _ hcode) (fun hw => vg_GW_good w hw)) : GoodIn vg_GW (Cond.code r.1.1 r.1.2.1 r.1.2.2.1 r.1.2.2.2.1 :: vg_GW))
    have hpre := vg_pre (σ := σ) hE hro hP hS (.ref o :: vg_args n st [])
    refine vg_cont (va_runV (C := r.1.1.cls) (b := G.2.2 o) (As := (vg_args n st []).map (vg_cv G.2.2)) (rest := rest.map (vg_cv G.2.2)) (bytes := r.1.2.1) (maxL := r.1.2.2.1) (ret := r.1.2.2.2.1) (n := n) ⟨hx, hb, hml, hown, hts⟩ (hM _ σ h.2.1) ⟨⟨rfl, rfl, hfr, hlo, hws, List.mem_cons_self, hts _ hcode, hts _ hini, hnm, vg_sig h3, hts _ (vg_wd_in h1)⟩, hts _ hin1, hts _ hin2⟩ ⟨hpre.1, hrec, hpre.2⟩ rfl (by rw [List.length_map]; exact vg_args_len n st hn) hl.1.1 hstk (lv_room (by rw [vg_cat_eq]; exact h.1)) hdg ⟨hc1, hc2⟩) hS (fun v σ' H1 locs1 hf hp hP1 hS1 => ?_)
    rw [vg_toList]
    exact kK _ _ _ _ (vg_ans h hf hp) hP1 hS1
  · cases hlk
theorem vg_goS {H : Heap} {locs : List Loc} {ls : Array Slot} {pc a n i : Nat} {z : Int} {L : vg_L} {st : List Value} {σ : vg_S} {r : vg_R} {K : List Value → vg_S → Prop} (X : vg_X p l R s m args c cells slots own cc nL G sh ro cs cp) (hdg : decode cc pc = .ok (.invokestatic i, 3)) {b : Nat} (hb3 : ¬ b = 3) (hlk : vg_lks own cs rt cp (.invokestatic i) a b n z = true)
    (hl : vg_lr G.2.2 ls nL L) (hP : vg_P G sh σ H) (hS : va_S (vg_A G.2.2 sh.length) s.heap H locs) (hr : vg_nth cs a = some r) (hn : Nat.ble n st.length = true) (h : vg_call r (vg_args n st []) (vg_drop n st) σ K)
    (kK : ∀ st σ H locs, K st σ → vg_P G sh σ H → va_S (vg_A G.2.2 sh.length) s.heap H locs → W p l e R s m args below meth c H locs cells slots Q (F0 m (pc + 3) ls (st.map (vg_cv G.2.2)))) : W p l e R s m args below meth c H locs cells slots Q (F0 m pc ls (st.map (vg_cv G.2.2))) := by
  obtain ⟨hx, hb, hml, hown, hts, hap, hE, hro, hcs, -, hc1, hc2⟩ := X
  have hn : n ≤ st.length := Nat.le_of_ble_eq_true hn
  have hmem : r ∈ cs := by rw [vg_nth_eq] at hr; exact List.mem_of_getElem? hr
  obtain ⟨⟨⟨hcode, hini, hnm, hpl, hin⟩, hM⟩, hfr, hlo⟩ := hcs r hmem
  have hstk := vg_stack G.2.2 n st hn
  have hws := pay_in hts (fun w hw => (show w ∈ vg_GW ∧ _ from (List.mem_cons.mp hw).elim (fun e => by rw [e]; exact vg_GW_good _ hcode) (fun hw => vg_GW_good w hw)) : GoodIn vg_GW (Cond.code r.1.1 r.1.2.1 r.1.2.2.1 r.1.2.2.2.1 :: vg_GW))
  have hpre := vg_pre (σ := σ) hE hro hP hS (vg_args n st [])
  simp only [vg_lks, hr] at hlk
  split at hlk
  · simp only [Bool.and_eq_true, decide_eq_true_eq] at hlk
    obtain ⟨⟨h1, h3⟩, h4⟩ := hlk
    rw [h4] at hin
    refine vg_cont (va_runS (As := (vg_args n st []).map (vg_cv G.2.2)) (rest := (vg_drop n st).map (vg_cv G.2.2)) (bytes := r.1.2.1) (maxL := r.1.2.2.1) (ret := r.1.2.2.2.1) (n := n) ⟨hx, hb, hml, hown, hts⟩ (hM _ σ h.2.1) ⟨⟨rfl, rfl, hfr, hlo, hws, List.mem_cons_self, hts _ hcode, hts _ hini, hnm, vg_sig h3, hts _ (vg_wd_in h1)⟩, hts _ hin⟩ hpre rfl (by rw [List.length_map]; exact vg_args_len n st hn) hl.1.1 hstk (lv_room (by rw [vg_cat_eq]; exact h.1)) hdg ⟨hc1, hc2⟩) hS (fun v σ' H1 locs1 hf hp hP1 hS1 => ?_)
    rw [vg_toList]
    exact kK _ _ _ _ (vg_ans h hf hp) hP1 hS1
  · simp only [Bool.and_eq_true, decide_eq_true_eq] at hlk
    obtain ⟨⟨h1, h3⟩, h4⟩ := hlk
    rw [h4] at hin
    have hnw := va_Nw.use (A := args) rfl (hE.2.1 _ (by rw [vg_nth_eq] at h1; exact List.mem_of_getElem? h1))
    refine vg_cont (va_runSN (host := "NoiseShaper") (As := (vg_args n st []).map (vg_cv G.2.2)) (rest := (vg_drop n st).map (vg_cv G.2.2)) (bytes := r.1.2.1) (maxL := r.1.2.2.1) (ret := r.1.2.2.2.1) (n := n) ⟨hx, hb, hml, hown, hts⟩ (hM _ σ h.2.1) ⟨⟨⟨rfl, rfl, hfr, hlo, hws, List.mem_cons_self⟩, hts _ hcode, hts _ hini, hnm, vg_sig h3, hnw⟩, hts _ hin, trivial⟩ hpre rfl (by rw [List.length_map]; exact vg_args_len n st hn) hl.1.1 hstk (lv_room (by rw [vg_cat_eq]; exact h.1)) hdg ⟨hc1, hc2⟩) hS (fun v σ' H1 locs1 hf hp hP1 hS1 => ?_)
    rw [vg_toList]
    exact kK _ _ _ _ (vg_ans h hf hp) hP1 hS1
  · exact (hb3 rfl).elim
  · cases hlk
theorem vg_nn {x : Int32} (h : 0 ≤ x.toInt) : ¬ x < 0 := fun q => by
  have := Int32.lt_iff_toInt_lt.mp q
  simp at this
  omega
theorem vg_clamp (x : Int32) : x.toNatClampNeg = x.toInt.toNat := rfl
theorem vg_tb_go {f : Nat → Prop} {pc : Nat} {x : Int32} : ∀ (offs : List Int) (lo : Int), vg_tb f pc x lo offs → ∀ (k : Nat) (o : Int), x.toInt = lo + k → offs[k]? = some o → f ((pc : Int) + o).toNat
  | [], lo, h, k, o, hx, ho => by simp at ho
  | o0 :: r, lo, h, 0, o, hx, ho => by
    simp at ho
    subst ho
    exact h.1 (by simpa using hx)
  | o0 :: r, lo, h, k + 1, o, hx, ho => vg_tb_go r (lo + 1) h.2 k o (by rw [hx]; push_cast; omega) (by simpa using ho)
theorem vg_lk_go {f : Nat → Prop} {pc : Nat} {x : Int32} {d : Int} : ∀ (ps : List (Int × Int)), vg_lk f pc x d ps → f ((pc : Int) + Op.lookupswitch.offset ps d x.toInt).toNat
  | [], h => h
  | (a, o) :: r, h => by
    rw [Op.lookupswitch.offset_cons]
    by_cases hx : x.toInt = a
    · rw [if_pos hx.symm]
      exact h.1 hx
    · rw [if_neg (fun q => hx q.symm)]
      exact vg_lk_go r (h.2 hx)
theorem vg_lk_nn {pc : Nat} {d x : Int} : ∀ (ps : List (Int × Int)), 0 ≤ (pc : Int) + d → ps.all (fun o => decide (0 ≤ (pc : Int) + o.2)) = true → 0 ≤ (pc : Int) + Op.lookupswitch.offset ps d x
  | [], h, _ => h
  | (a, o) :: r, h, h2 => by
    simp only [List.all_cons, Bool.and_eq_true, decide_eq_true_eq] at h2
    rw [Op.lookupswitch.offset_cons]
    split
    · exact h2.1
    · exact vg_lk_nn r h h2.2
theorem vg_al_go {f : Nat → Prop} {i : Int32} : ∀ (rs : List Nat) (j : Nat), vg_al f i j rs → ∀ (t k : Nat), i.toInt = ((j + t : Nat) : Int) → rs[t]? = some k → f k
  | [], j, h, t, k, hi, hk => by simp at hk
  | a :: r, j, h, 0, k, hi, hk => by
    simp at hk
    subst hk
    exact h.1 (by simpa using hi)
  | a :: r, j, h, t + 1, k, hi, hk => vg_al_go r (j + 1) h.2 t k (by rw [hi]; congr 1; omega) (by simpa using hk)
set_option maxHeartbeats 4000000 in
/-- one instruction -/
theorem vg_ex_sound {H : Heap} {locs : List Loc} {ls : Array Slot} {pc len a b c0 : Nat} {op : Instr} {z : Int} {L : vg_L} {st : List Value} {σ : vg_S} {K : vg_L → List Value → vg_S → Prop} {J : vg_L → List Value → vg_S → Nat → Prop} (X : vg_X p l R s m args c cells slots own cc nL G sh ro cs cp) (hsh : ∀ r t n rs, vg_nth sh r = some (.inl (t + 2, n, rs)) → t = 0 ∨ t = 1) (hok : vg_ok own cc cs rt cp (pc, op, len, a, b, c0, z) = true)
    (hl : vg_lr G.2.2 ls nL L) (hP : vg_P G sh σ H) (hS : va_S (vg_A G.2.2 sh.length) s.heap H locs) (h : vg_ex sh ro cs po K J (pc, op, len, a, b, c0, z) L st σ)
    (kK : ∀ L st σ H locs ls, K L st σ → vg_lr G.2.2 ls nL L → vg_P G sh σ H → va_S (vg_A G.2.2 sh.length) s.heap H locs → W p l e R s m args below meth c H locs cells slots Q (F0 m (pc + len) ls (st.map (vg_cv G.2.2))))
    (kJ : ∀ L st σ t H locs ls, J L st σ t → vg_lr G.2.2 ls nL L → vg_P G sh σ H → va_S (vg_A G.2.2 sh.length) s.heap H locs → W p l e R s m args below meth c H locs cells slots Q (F0 m t ls (st.map (vg_cv G.2.2))))
    (kR : ∀ v σ H locs ls, vg_ok own cc cs rt cp (pc, op, len, a, b, c0, z) = true → vg_isret op z v → po v σ → vg_lr G.2.2 ls nL L → vg_P G sh σ H → va_S (vg_A G.2.2 sh.length) s.heap H locs → W p l e R s m args below meth c H locs cells slots Q (F0 m pc ls ((v.map (vg_cv G.2.2)).toList))) : W p l e R s m args below meth c H locs cells slots Q (F0 m pc ls (st.map (vg_cv G.2.2))) := by
  obtain ⟨hx, hb, hml, hown, hts, hap, hE, hro, hcs, hcp, hc1, hc2⟩ := id X
  obtain ⟨hdg, hln, hlk, htg⟩ := vg_ok_spec hok
  cases op with
  | iconst i =>
    have hln : len = 1 := hln
    subst hln
    exact lv_iconst hx hb hdg rfl (kK _ _ _ _ _ _ h hl hP hS)
  | bipush i =>
    have hln : len = 2 := hln
    subst hln
    exact lv_bipush hx hb hdg (of_decide_eq_true hlk) (kK _ _ _ _ _ _ h hl hP hS)
  | sipush i =>
    have hln : len = 3 := hln
    subst hln
    exact lv_sipush hx hb hdg (of_decide_eq_true hlk) (kK _ _ _ _ _ _ h hl hP hS)
  | lconst i =>
    have hln : len = 1 := hln
    subst hln
    exact lv_lconst hx hb hdg rfl (kK _ _ _ _ _ _ h hl hP hS)
  | ldc i =>
    have hln : len = 2 := hln
    subst hln
    exact lv_ldc hx hb hown (hts _ (vg_wd_in hlk)) hdg (kK _ _ _ _ _ _ h hl hP hS)
  | ldc_w i =>
    have hln : len = 3 := hln
    subst hln
    exact lv_ldcw hx hb hown (hts _ (vg_wd_in hlk)) hdg (kK _ _ _ _ _ _ h hl hP hS)
  | ldc2_w i =>
    have hln : len = 3 := hln
    subst hln
    exact lv_ldc2 hx hb hown (hts _ (vg_wd_in hlk)) hdg (kK _ _ _ _ _ _ h hl hP hS)
  | iload_n i =>
    have hln : len = 1 := hln
    subst hln
    simp only [vg_ex] at h
    split at h
    · rename_i x hi
      exact lv_iload_n hx hb hdg rfl (hl.at hi) (kK _ _ _ _ _ _ h hl hP hS)
    · exact h.elim
  | iload i =>
    have hln : len = 2 := hln
    subst hln
    simp only [vg_ex] at h
    split at h
    · rename_i x hi
      exact lv_iload hx hb hdg (hl.at hi) (kK _ _ _ _ _ _ h hl hP hS)
    · exact h.elim
  | lload_n i =>
    have hln : len = 1 := hln
    subst hln
    simp only [vg_ex] at h
    split at h
    · rename_i x hi
      exact lv_lload_n hx hb hdg rfl (hl.at hi) (kK _ _ _ _ _ _ h hl hP hS)
    · exact h.elim
  | lload i =>
    have hln : len = 2 := hln
    subst hln
    simp only [vg_ex] at h
    split at h
    · rename_i x hi
      exact lv_lload hx hb hdg (hl.at hi) (kK _ _ _ _ _ _ h hl hP hS)
    · exact h.elim
  | aload_n i =>
    have hln : len = 1 := hln
    subst hln
    simp only [vg_ex] at h
    split at h
    · rename_i x hi
      exact lv_aload_n hx hb hdg rfl (hl.at hi) (kK _ _ _ _ _ _ h hl hP hS)
    · exact h.elim
  | aload i =>
    have hln : len = 2 := hln
    subst hln
    simp only [vg_ex] at h
    split at h
    · rename_i x hi
      exact lv_aload hx hb hdg (hl.at hi) (kK _ _ _ _ _ _ h hl hP hS)
    · exact h.elim
  | istore_n i =>
    have hln : len = 1 := hln
    subst hln
    simp only [vg_ex] at h
    split at h
    · rename_i hi
      exact lv_istore_n (nL := nL) hx hb hdg rfl hl.1 (by rw [← hl.2]; exact vg_nth_lt hi) rfl (fun ls' hl' => kK _ _ _ _ _ _ h (hl.s1 (v := (.int _)) hl') hP hS)
    · exact h.elim
  | istore i =>
    have hln : len = 2 := hln
    subst hln
    simp only [vg_ex] at h
    split at h
    · rename_i hi
      exact lv_istore (nL := nL) hx hb hdg hl.1 (by rw [← hl.2]; exact vg_nth_lt hi) rfl (fun ls' hl' => kK _ _ _ _ _ _ h (hl.s1 (v := (.int _)) hl') hP hS)
    · exact h.elim
  | astore_n i =>
    have hln : len = 1 := hln
    subst hln
    simp only [vg_ex] at h
    split at h
    · rename_i hi
      exact lv_astore_n (nL := nL) hx hb hdg rfl hl.1 (by rw [← hl.2]; exact vg_nth_lt hi) rfl (fun ls' hl' => kK _ _ _ _ _ _ h (hl.s1 (v := (.ref _)) hl') hP hS)
    · exact h.elim
  | astore i =>
    have hln : len = 2 := hln
    subst hln
    simp only [vg_ex] at h
    split at h
    · rename_i hi
      exact lv_astore (nL := nL) hx hb hdg hl.1 (by rw [← hl.2]; exact vg_nth_lt hi) rfl (fun ls' hl' => kK _ _ _ _ _ _ h (hl.s1 (v := (.ref _)) hl') hP hS)
    · exact h.elim
  | lstore_n i =>
    have hln : len = 1 := hln
    subst hln
    simp only [vg_ex] at h
    split at h
    · rename_i hi
      exact lv_lstore_n (nL := nL) hx hb hdg rfl hl.1 (by rw [← hl.2]; exact vg_nth_lt hi) rfl (fun ls' hl' => kK _ _ _ _ _ _ h (hl.s2 (v := .long _) (vg_nth_lt hi) hl') hP hS)
    · exact h.elim
  | lstore i =>
    have hln : len = 2 := hln
    subst hln
    simp only [vg_ex] at h
    split at h
    · rename_i hi
      exact lv_lstore (nL := nL) hx hb hdg hl.1 (by rw [← hl.2]; exact vg_nth_lt hi) rfl (fun ls' hl' => kK _ _ _ _ _ _ h (hl.s2 (v := .long _) (vg_nth_lt hi) hl') hP hS)
    · exact h.elim
  | iinc i n =>
    have hln : len = 3 := hln
    subst hln
    simp only [vg_ex] at h
    split at h
    · rename_i x hi
      obtain ⟨k, hk⟩ := List.getElem?_of_mem (vg_la_in G.2.2 L 0 i (.int x) hi)
      rw [Nat.zero_add] at hk
      exact lv_iinc (nL := nL) (k := k) (x := x) hx hb hdg hl.1 hk rfl (by rw [← hl.2]; exact vg_nth_lt hi) rfl (fun ls' hl' => kK _ _ _ _ _ _ (h _ rfl) (hl.s1 (v := .int _) hl') hP hS)
    · exact h.elim
  | iadd =>
    have hln : len = 1 := hln
    subst hln
    simp only [vg_ex] at h
    split at h
    · exact lv_iadd hx hb hdg (kK _ _ _ _ _ _ (h _ rfl) hl hP hS)
    · exact h.elim
  | isub =>
    have hln : len = 1 := hln
    subst hln
    simp only [vg_ex] at h
    split at h
    · exact lv_isub hx hb hdg (kK _ _ _ _ _ _ (h _ rfl) hl hP hS)
    · exact h.elim
  | imul =>
    have hln : len = 1 := hln
    subst hln
    simp only [vg_ex] at h
    split at h
    · exact lv_imul hx hb hdg (kK _ _ _ _ _ _ (h _ rfl) hl hP hS)
    · exact h.elim
  | iand =>
    have hln : len = 1 := hln
    subst hln
    simp only [vg_ex] at h
    split at h
    · exact lv_iand hx hb hdg (kK _ _ _ _ _ _ (h _ rfl) hl hP hS)
    · exact h.elim
  | ior =>
    have hln : len = 1 := hln
    subst hln
    simp only [vg_ex] at h
    split at h
    · exact lv_ior hx hb hdg (kK _ _ _ _ _ _ (h _ rfl) hl hP hS)
    · exact h.elim
  | ixor =>
    have hln : len = 1 := hln
    subst hln
    simp only [vg_ex] at h
    split at h
    · exact lv_ixor hx hb hdg (kK _ _ _ _ _ _ (h _ rfl) hl hP hS)
    · exact h.elim
  | ishl =>
    have hln : len = 1 := hln
    subst hln
    simp only [vg_ex] at h
    split at h
    · exact lv_ishl hx hb hdg (kK _ _ _ _ _ _ (h _ rfl) hl hP hS)
    · exact h.elim
  | ishr =>
    have hln : len = 1 := hln
    subst hln
    simp only [vg_ex] at h
    split at h
    · exact lv_ishr hx hb hdg (kK _ _ _ _ _ _ (h _ rfl) hl hP hS)
    · exact h.elim
  | ineg =>
    have hln : len = 1 := hln
    subst hln
    simp only [vg_ex] at h
    split at h
    · exact lv_ineg hx hb hdg (kK _ _ _ _ _ _ (h _ rfl) hl hP hS)
    · exact h.elim
  | ladd =>
    have hln : len = 1 := hln
    subst hln
    simp only [vg_ex] at h
    split at h
    · exact lv_ladd hx hb hdg (kK _ _ _ _ _ _ (h _ rfl) hl hP hS)
    · exact h.elim
  | lsub =>
    have hln : len = 1 := hln
    subst hln
    simp only [vg_ex] at h
    split at h
    · exact lv_lsub hx hb hdg (kK _ _ _ _ _ _ (h _ rfl) hl hP hS)
    · exact h.elim
  | lmul =>
    have hln : len = 1 := hln
    subst hln
    simp only [vg_ex] at h
    split at h
    · exact lv_lmul hx hb hdg (kK _ _ _ _ _ _ (h _ rfl) hl hP hS)
    · exact h.elim
  | land =>
    have hln : len = 1 := hln
    subst hln
    simp only [vg_ex] at h
    split at h
    · exact lv_land hx hb hdg (kK _ _ _ _ _ _ (h _ rfl) hl hP hS)
    · exact h.elim
  | lneg =>
    have hln : len = 1 := hln
    subst hln
    simp only [vg_ex] at h
    split at h
    · exact lv_lneg hx hb hdg (kK _ _ _ _ _ _ (h _ rfl) hl hP hS)
    · exact h.elim
  | lcmp =>
    have hln : len = 1 := hln
    subst hln
    simp only [vg_ex] at h
    split at h
    · exact W.lcmp hx hb hdg (kK _ _ _ _ _ _ (h _ rfl) hl hP hS)
    · exact h.elim
  | iushr =>
    have hln : len = 1 := hln
    subst hln
    simp only [vg_ex] at h
    split at h
    · exact lv_iushr hx hb hdg rfl (kK _ _ _ _ _ _ (h _ rfl) hl hP hS)
    · exact h.elim
  | lshl =>
    have hln : len = 1 := hln
    subst hln
    simp only [vg_ex] at h
    split at h
    · exact lv_lshl hx hb hdg rfl (kK _ _ _ _ _ _ (h _ rfl) hl hP hS)
    · exact h.elim
  | lshr =>
    have hln : len = 1 := hln
    subst hln
    simp only [vg_ex] at h
    split at h
    · exact lv_lshr hx hb hdg rfl (kK _ _ _ _ _ _ (h _ rfl) hl hP hS)
    · exact h.elim
  | i2l =>
    have hln : len = 1 := hln
    subst hln
    simp only [vg_ex] at h
    split at h
    · exact lv_i2l hx hb hdg rfl (kK _ _ _ _ _ _ (h _ rfl) hl hP hS)
    · exact h.elim
  | l2i =>
    have hln : len = 1 := hln
    subst hln
    simp only [vg_ex] at h
    split at h
    · exact lv_l2i hx hb hdg rfl (kK _ _ _ _ _ _ (h _ rfl) hl hP hS)
    · exact h.elim
  | idiv =>
    have hln : len = 1 := hln
    subst hln
    simp only [vg_ex] at h
    split at h
    · exact lv_idiv hx hb hdg (fun q => h.1 (by rw [q]; rfl)) (kK _ _ _ _ _ _ (h.2 _ rfl) hl hP hS)
    · exact h.elim
  | irem =>
    have hln : len = 1 := hln
    subst hln
    simp only [vg_ex] at h
    split at h
    · exact lv_irem hx hb hdg (fun q => h.1 (by rw [q]; rfl)) (kK _ _ _ _ _ _ (h.2 _ rfl) hl hP hS)
    · exact h.elim
  | ldiv =>
    have hln : len = 1 := hln
    subst hln
    simp only [vg_ex] at h
    split at h
    · exact lv_ldiv hx hb hdg (fun q => h.1 (by rw [q]; rfl)) (kK _ _ _ _ _ _ (h.2 _ rfl) hl hP hS)
    · exact h.elim
  | lrem =>
    have hln : len = 1 := hln
    subst hln
    simp only [vg_ex] at h
    split at h
    · exact lv_lrem hx hb hdg (fun q => h.1 (by rw [q]; rfl)) (kK _ _ _ _ _ _ (h.2 _ rfl) hl hP hS)
    · exact h.elim
  | dup =>
    have hln : len = 1 := hln
    subst hln
    simp only [vg_ex] at h
    split at h
    · exact lv_dup hx hb hdg rfl (kK _ _ _ _ _ _ h hl hP hS)
    · exact lv_dup hx hb hdg rfl (kK _ _ _ _ _ _ h hl hP hS)
    · exact h.elim
  | dup2 =>
    have hln : len = 1 := hln
    subst hln
    simp only [vg_ex] at h
    split at h
    · exact lv_dup2_11 hx hb hdg rfl rfl (kK _ _ _ _ _ _ h hl hP hS)
    · exact lv_dup2_2 hx hb hdg rfl (kK _ _ _ _ _ _ h hl hP hS)
    · exact h.elim
  | pop =>
    have hln : len = 1 := hln
    subst hln
    simp only [vg_ex] at h
    split at h
    · exact lv_pop hx hb hdg rfl (kK _ _ _ _ _ _ h hl hP hS)
    · exact h.elim
  | pop2 =>
    have hln : len = 1 := hln
    subst hln
    simp only [vg_ex] at h
    split at h
    · exact lv_pop2_2 hx hb hdg rfl (kK _ _ _ _ _ _ h hl hP hS)
    · exact h.elim
  | goto off =>
    have hln : len = 3 := hln
    subst hln
    have htg : 0 ≤ (pc : Int) + off := of_decide_eq_true htg
    exact lv_goto hx hb hdg (Int.toNat_of_nonneg htg).symm (kJ _ _ _ _ _ _ _ h hl hP hS)
  | ifCond cd off =>
    have hln : len = 3 := hln
    subst hln
    have htq : 0 ≤ (pc : Int) + off := of_decide_eq_true htg
    clear htg
    simp only [vg_ex] at h
    split at h
    · cases cd with
      | eq => exact lv_if_eq (tgt := ((pc : Int) + off).toNat) hx hb hdg (Int.toNat_of_nonneg htq).symm (fun q => kJ _ _ _ _ _ _ _ (h.1 (vg_b_if_eq.mp q)) hl hP hS) (fun q => kK _ _ _ _ _ _ (h.2 (fun z => q (vg_b_if_eq.mpr z))) hl hP hS)
      | ne => exact lv_if_ne (tgt := ((pc : Int) + off).toNat) hx hb hdg (Int.toNat_of_nonneg htq).symm (fun q => kJ _ _ _ _ _ _ _ (h.1 (vg_b_if_ne.mp q)) hl hP hS) (fun q => kK _ _ _ _ _ _ (h.2 (fun z => vg_b_if_ne.mpr z q)) hl hP hS)
      | lt => exact lv_if_lt (tgt := ((pc : Int) + off).toNat) hx hb hdg (Int.toNat_of_nonneg htq).symm (fun q => kJ _ _ _ _ _ _ _ (h.1 (vg_b_if_lt.mp q)) hl hP hS) (fun q => kK _ _ _ _ _ _ (h.2 (fun z => q (vg_b_if_lt.mpr z))) hl hP hS)
      | ge => exact lv_if_ge (tgt := ((pc : Int) + off).toNat) hx hb hdg (Int.toNat_of_nonneg htq).symm (fun q => kJ _ _ _ _ _ _ _ (h.1 (vg_b_if_ge.mp q)) hl hP hS) (fun q => kK _ _ _ _ _ _ (h.2 (fun z => q (vg_b_if_ge.mpr z))) hl hP hS)
      | gt => exact lv_if_gt (tgt := ((pc : Int) + off).toNat) hx hb hdg (Int.toNat_of_nonneg htq).symm (fun q => kJ _ _ _ _ _ _ _ (h.1 (vg_b_if_gt.mp q)) hl hP hS) (fun q => kK _ _ _ _ _ _ (h.2 (fun z => q (vg_b_if_gt.mpr z))) hl hP hS)
      | le => exact lv_if_le (tgt := ((pc : Int) + off).toNat) hx hb hdg (Int.toNat_of_nonneg htq).symm (fun q => kJ _ _ _ _ _ _ _ (h.1 (vg_b_if_le.mp q)) hl hP hS) (fun q => kK _ _ _ _ _ _ (h.2 (fun z => q (vg_b_if_le.mpr z))) hl hP hS)
    · exact h.elim
  | if_icmp cd off =>
    have hln : len = 3 := hln
    subst hln
    have htq : 0 ≤ (pc : Int) + off := of_decide_eq_true htg
    clear htg
    simp only [vg_ex] at h
    split at h
    · cases cd with
      | eq => exact lv_icmp_eq (tgt := ((pc : Int) + off).toNat) hx hb hdg (Int.toNat_of_nonneg htq).symm (fun q => kJ _ _ _ _ _ _ _ (h.1 (vg_b_icmp_eq.mp q)) hl hP hS) (fun q => kK _ _ _ _ _ _ (h.2 (fun z => q (vg_b_icmp_eq.mpr z))) hl hP hS)
      | ne => exact lv_icmp_ne (tgt := ((pc : Int) + off).toNat) hx hb hdg (Int.toNat_of_nonneg htq).symm (fun q => kJ _ _ _ _ _ _ _ (h.1 (vg_b_icmp_ne.mp q)) hl hP hS) (fun q => kK _ _ _ _ _ _ (h.2 (fun z => vg_b_icmp_ne.mpr z q)) hl hP hS)
      | lt => exact lv_icmp_lt (tgt := ((pc : Int) + off).toNat) hx hb hdg (Int.toNat_of_nonneg htq).symm (fun q => kJ _ _ _ _ _ _ _ (h.1 (vg_b_icmp_lt.mp q)) hl hP hS) (fun q => kK _ _ _ _ _ _ (h.2 (fun z => q (vg_b_icmp_lt.mpr z))) hl hP hS)
      | ge => exact lv_icmp_ge (tgt := ((pc : Int) + off).toNat) hx hb hdg (Int.toNat_of_nonneg htq).symm (fun q => kJ _ _ _ _ _ _ _ (h.1 (vg_b_icmp_ge.mp q)) hl hP hS) (fun q => kK _ _ _ _ _ _ (h.2 (fun z => q (vg_b_icmp_ge.mpr z))) hl hP hS)
      | gt => exact lv_icmp_gt (tgt := ((pc : Int) + off).toNat) hx hb hdg (Int.toNat_of_nonneg htq).symm (fun q => kJ _ _ _ _ _ _ _ (h.1 (vg_b_icmp_gt.mp q)) hl hP hS) (fun q => kK _ _ _ _ _ _ (h.2 (fun z => q (vg_b_icmp_gt.mpr z))) hl hP hS)
      | le => exact lv_icmp_le (tgt := ((pc : Int) + off).toNat) hx hb hdg (Int.toNat_of_nonneg htq).symm (fun q => kJ _ _ _ _ _ _ _ (h.1 (vg_b_icmp_le.mp q)) hl hP hS) (fun q => kK _ _ _ _ _ _ (h.2 (fun z => q (vg_b_icmp_le.mpr z))) hl hP hS)
    · exact h.elim
  | tableswitch d lo hi offs =>
    simp only [vg_tg, Bool.and_eq_true, decide_eq_true_eq, List.all_eq_true] at htg
    simp only [vg_ex] at h
    split at h
    · rename_i x st
      by_cases hx1 : x.toInt < lo ∨ hi < x.toInt
      · exact lv_tableOut hx hb hdg hx1 (Int.toNat_of_nonneg htg.1).symm (kJ _ _ _ _ _ _ _ (h.1 hx1) hl hP hS)
      · have h1 : ¬ x.toInt < lo := fun q => hx1 (Or.inl q)
        have h2 : ¬ hi < x.toInt := fun q => hx1 (Or.inr q)
        have hlen : hi - lo + 1 = (offs.toList.length : Int) := of_decide_eq_true hlk
        have hk : (x.toInt - lo).toNat < offs.toList.length := by omega
        have ho : offs[(x.toInt - lo).toNat]? = some (offs.toList[(x.toInt - lo).toNat]'hk) := by
          rw [← Array.getElem?_toList]
          exact List.getElem?_eq_getElem hk
        have hg := vg_tb_go offs.toList lo h.2 (x.toInt - lo).toNat _ (by omega) (List.getElem?_eq_getElem hk)
        exact lv_tableIn hx hb hdg h1 h2 ho (Int.toNat_of_nonneg (htg.2 _ (List.getElem_mem hk))).symm (kJ _ _ _ _ _ _ _ hg hl hP hS)
    · exact h.elim
  | lookupswitch d ps =>
    simp only [vg_tg, Bool.and_eq_true, decide_eq_true_eq] at htg
    simp only [vg_ex] at h
    split at h
    · rename_i x st
      have hg := vg_lk_go ps.toList h
      exact lv_lookup hx hb hdg hlk rfl (Int.toNat_of_nonneg (vg_lk_nn ps.toList htg.1 htg.2)).symm (kJ _ _ _ _ _ _ _ hg hl hP hS)
    · exact h.elim
  | getfield i =>
    have hln : len = 3 := hln
    subst hln
    simp only [vg_ex] at h
    split at h
    · rename_i r st
      split at h
      · rename_i ci ks hr
        simp only [vg_lks] at hlk
        split at hlk
        · rename_i q hq
          simp only [Bool.and_eq_true] at hlk
          have hcls := vg_cls hq
          have hc0 : c0 < q.2.2 := by simpa [Nat.blt_eq] using hlk.1
          have he : (vg_cw G.2.1 G.2.2 σ 0 sh)[r]? = some (G.2.2 r, .inr (ci, vg_fl G.2.2 (σ.1 r) (σ.2 r) 0 ks)) := by
            rw [vg_cw_at, ← vg_nth_eq, hr]
            simp [vg_ce]
          have hq2 : vwCl[b]? = some q := by rw [← vg_nth_eq]; exact hq
          have go : ∀ v, vg_fl G.2.2 (σ.1 r) (σ.2 r) 0 ks = vg_fl G.2.2 (σ.1 r) (σ.2 r) 0 ks → ci = b → (vg_fl G.2.2 (σ.1 r) (σ.2 r) 0 ks)[c0]? = some (vg_cv G.2.2 v) → K L (v :: st) σ → W p l e R s m args below meth c H locs cells slots Q (F0 m pc ls (List.map (vg_cv G.2.2) (Value.ref r :: st))) := by
            intro v _ hb2 hv hk
            subst hb2
            exact va_get (D := G.1) (C := q.1) (T := q.2.1) (N := q.2.2) hx hb hts hcls.1 hown hE.1 hP r he hq2 c0 hc0 (hts _ (vg_wd_in hlk.2)) (fun _ h9 => h9) hv hdg (kK _ _ _ _ _ _ hk hl hP hS)
          split at h
          · rename_i hb2 hk
            exact go (.int (σ.1 r c0)) rfl (Nat.eq_of_beq_eq_true hb2) (by rw [vg_fl_at, ← vg_nth_eq, hk]; simp [vg_fv, vg_cv]) (h _ rfl)
          · rename_i hb2 hk
            exact go (.long (σ.2 r c0)) rfl (Nat.eq_of_beq_eq_true hb2) (by rw [vg_fl_at, ← vg_nth_eq, hk]; simp [vg_fv, vg_cv]) (h _ rfl)
          · rename_i n hb2 hk
            exact go (.ref n) rfl (Nat.eq_of_beq_eq_true hb2) (by rw [vg_fl_at, ← vg_nth_eq, hk]; simp [vg_fv, vg_cv]) h
          · exact h.elim
        · cases hlk
      · exact h.elim
    · exact h.elim
  | putfield i =>
    have hln : len = 3 := hln
    subst hln
    simp only [vg_ex] at h
    simp only [vg_lks] at hlk
    split at hlk
    · rename_i q hq
      simp only [Bool.and_eq_true, decide_eq_true_eq, Bool.not_eq_true'] at hlk
      obtain ⟨⟨⟨hk0, hlw⟩, hfin⟩, hpd⟩ := hlk
      have hcls := vg_cls hq
      obtain ⟨ty0, hty⟩ := hcls.2.2
      have hc0 : c0 < q.2.2 := by simpa [Nat.blt_eq] using hk0
      have hq2 : vwCl[b]? = some q := by rw [← vg_nth_eq]; exact hq
      have hD := vg_cw_D G.2.1 G.2.2 σ sh hap
      split at h
      · rename_i x r st
        split at h
        · rename_i ci ks hr
          have hr2 : sh[r]? = some (.inr (ci, ks)) := by rw [← vg_nth_eq]; exact hr
          have he : (vg_cw G.2.1 G.2.2 σ 0 sh)[r]? = some (G.2.2 r, .inr (ci, vg_fl G.2.2 (σ.1 r) (σ.2 r) 0 ks)) := by
            rw [vg_cw_at, hr2]
            simp [vg_ce]
          have go : ci = b → vg_nth ks c0 = some 0 → (z = 0 ∨ (z = 1 ∧ (x = 0 ∨ x = 1))) → K L st (vg_u1 σ r c0 x) → W p l e R s m args below meth c H locs cells slots Q (F0 m pc ls (List.map (vg_cv G.2.2) (Value.int x :: Value.ref r :: st))) := by
            intro hb2 hk hz hh
            subst hb2
            have hk2 : ks[c0]? = some 0 := by rw [← vg_nth_eq]; exact hk
            have hnr := vg_nr hz
            refine va_put (D := G.1) (C := q.1) (T := q.2.1) (N := q.2.2) (v := .int x) hx hb hts hcls.1 ty0 hty hcls.2.1 hown hE.1 hP hD hS r he hq2 c0 hc0 (hts _ (vg_wd_in hlw)) (fun _ h9 => h9) hfin hpd hnr.1 hnr.2 (by rw [vg_fl_len]; exact (List.getElem?_eq_some_iff.mp hk2).1) hdg (fun H1 locs1 hP1 hD1 hS1 => kK _ _ _ _ _ _ hh hl ?_ hS1)
            rw [vg_fl_set1 _ _ _ _ _ _ hk2] at hP1
            have := vg_cw_set1 G.2.1 G.2.2 σ sh r (.inr (ci, ks)) (upd (σ.1 r) c0 x) hr2
            simp only [vg_ce] at this
            rw [this] at hP1
            exact hP1
          split at h
          · rename_i hb2 hk
            exact go (Nat.eq_of_beq_eq_true hb2) hk (Or.inl rfl) (h _ rfl)
          · rename_i hb2 hk
            exact go (Nat.eq_of_beq_eq_true hb2) hk (Or.inr ⟨rfl, h.1⟩) (h.2 _ rfl)
          · exact h.elim
        · exact h.elim
      · rename_i x r st
        split at h
        · rename_i ci ks hr
          have hr2 : sh[r]? = some (.inr (ci, ks)) := by rw [← vg_nth_eq]; exact hr
          have he : (vg_cw G.2.1 G.2.2 σ 0 sh)[r]? = some (G.2.2 r, .inr (ci, vg_fl G.2.2 (σ.1 r) (σ.2 r) 0 ks)) := by
            rw [vg_cw_at, hr2]
            simp [vg_ce]
          split at h
          · rename_i hb2 hk
            have hb2 := Nat.eq_of_beq_eq_true hb2
            subst hb2
            have hk2 : ks[c0]? = some 1 := by rw [← vg_nth_eq]; exact hk
            refine va_put (D := G.1) (C := q.1) (T := q.2.1) (N := q.2.2) (ty := .long) (v := .long x) hx hb hts hcls.1 ty0 hty hcls.2.1 hown hE.1 hP hD hS r he hq2 c0 hc0 (hts _ (vg_wd_in hlw)) (fun _ h9 => h9) hfin hpd rfl rfl (by rw [vg_fl_len]; exact (List.getElem?_eq_some_iff.mp hk2).1) hdg (fun H1 locs1 hP1 hD1 hS1 => kK _ _ _ _ _ _ (h _ rfl) hl ?_ hS1)
            rw [vg_fl_set2 _ _ _ _ _ _ hk2] at hP1
            have := vg_cw_set2 G.2.1 G.2.2 σ sh r (.inr (ci, ks)) (vp_updL (σ.2 r) c0 x) hr2
            simp only [vg_ce] at this
            rw [this] at hP1
            exact hP1
          · exact h.elim
        · exact h.elim
      · exact h.elim
    · cases hlk
  | getstatic i =>
    have hln : len = 3 := hln
    subst hln
    simp only [vg_ex] at h
    simp only [vg_lks] at hlk
    split at hlk
    · rename_i q hq
      simp only [Bool.and_eq_true] at hlk
      have ha : q.1 = a := Nat.eq_of_beq_eq_true hlk.1
      subst ha
      split at h
      · exact va_gets hx hb (hE.2.2.2 q (by rw [vg_nth_eq] at hq; exact List.mem_of_getElem? hq)) hS hown (hts _ (vg_wd_in hlk.2)) (fun _ h9 => h9) hdg (kK _ _ _ _ _ _ h hl hP hS)
      · exact h.elim
    · cases hlk
  | iaload =>
    have hln : len = 1 := hln
    subst hln
    simp only [vg_ex] at h
    split at h
    · rename_i i r st
      split at h
      · rename_i n rs hr
        have he : (vg_cw G.2.1 G.2.2 σ 0 sh)[r]? = some (G.2.2 r, .inl (G.2.1 0, n, .inl (σ.1 r))) := by
          rw [vg_cw_at, ← vg_nth_eq, hr]
          simp [vg_ce]
        exact va_iald hx hb hE.1 hP r 0 he rfl h.1.in hdg (kK _ _ _ _ _ _ (h.2 _ rfl) hl hP hS)
      · split at h
        · rename_i n f hf
          exact va_ti hx hb (hE.2.2.1 r n f hf) hS h.1.in rfl hdg (kK _ _ _ _ _ _ (h.2 _ rfl) hl hP hS)
        · exact h.elim
      · exact h.elim
    · exact h.elim
  | laload =>
    have hln : len = 1 := hln
    subst hln
    simp only [vg_ex] at h
    split at h
    · rename_i i r st
      split at h
      · rename_i n rs hr
        have he : (vg_cw G.2.1 G.2.2 σ 0 sh)[r]? = some (G.2.2 r, .inl (G.2.1 1, n, .inr (.inl (σ.2 r)))) := by
          rw [vg_cw_at, ← vg_nth_eq, hr]
          simp [vg_ce]
        exact va_lald hx hb hE.1 hP r 1 he rfl h.1.in hdg (kK _ _ _ _ _ _ (h.2 _ rfl) hl hP hS)
      · exact h.elim
    · exact h.elim
  | aaload =>
    have hln : len = 1 := hln
    subst hln
    simp only [vg_ex] at h
    split at h
    · rename_i i r st
      split at h
      · rename_i t n rs hr
        have he : (vg_cw G.2.1 G.2.2 σ 0 sh)[r]? = some (G.2.2 r, .inl (G.2.1 (t + 2), n, .inr (.inr (.inr (.inr (fun j => (rs[j]?).map G.2.2)))))) := by
          rw [vg_cw_at, ← vg_nth_eq, hr]
          simp [vg_ce]
        have hn : n ≤ rs.length := Nat.le_of_ble_eq_true h.1
        have hin := h.2.1.in
        obtain ⟨h1, h2⟩ := h.2.1
        have hlt : i.toInt.toNat < rs.length := by omega
        have hkk : rs[i.toNatClampNeg]? = some (rs[i.toInt.toNat]'hlt) := List.getElem?_eq_getElem hlt
        have hgo := vg_al_go rs 0 h.2.2 i.toInt.toNat _ (by omega) (List.getElem?_eq_getElem hlt)
        have hty : t = 0 ∨ t = 1 := hsh r t n rs hr
        rcases hty with rfl | rfl
        · refine va_aldq (C := "NoiseShaper$Fold") hx hb hE.1 hP r 2 he rfl hin hdg ?_
          simp only [hkk]
          exact kK _ _ _ _ _ _ hgo hl hP hS
        · refine va_aldq (C := "NoiseShaper$Latest") hx hb hE.1 hP r 3 he rfl hin hdg ?_
          simp only [hkk]
          exact kK _ _ _ _ _ _ hgo hl hP hS
      · exact h.elim
    · exact h.elim
  | iastore =>
    have hln : len = 1 := hln
    subst hln
    simp only [vg_ex] at h
    split at h
    · rename_i x i r st
      split at h
      · rename_i n rs hr
        have hr2 : sh[r]? = some (.inl (0, n, rs)) := by rw [← vg_nth_eq]; exact hr
        have he : (vg_cw G.2.1 G.2.2 σ 0 sh)[r]? = some (G.2.2 r, .inl (G.2.1 0, n, .inl (σ.1 r))) := by
          rw [vg_cw_at, hr2]
          simp [vg_ce]
        refine va_iast hx hb hE.1 hP (vg_cw_D G.2.1 G.2.2 σ sh hap) hS r 0 he rfl h.1.in hdg (fun H1 locs1 hP1 hD1 hS1 => kK _ _ _ _ _ _ (h.2 _ rfl) hl ?_ hS1)
        have := vg_cw_set1 G.2.1 G.2.2 σ sh r (.inl (0, n, rs)) (upd (σ.1 r) i.toNatClampNeg x) hr2
        simp only [vg_ce] at this
        rw [this] at hP1
        exact hP1
      · exact h.elim
    · exact h.elim
  | lastore =>
    have hln : len = 1 := hln
    subst hln
    simp only [vg_ex] at h
    split at h
    · rename_i x i r st
      split at h
      · rename_i n rs hr
        have hr2 : sh[r]? = some (.inl (1, n, rs)) := by rw [← vg_nth_eq]; exact hr
        have he : (vg_cw G.2.1 G.2.2 σ 0 sh)[r]? = some (G.2.2 r, .inl (G.2.1 1, n, .inr (.inl (σ.2 r)))) := by
          rw [vg_cw_at, hr2]
          simp [vg_ce]
        refine va_last hx hb hE.1 hP (vg_cw_D G.2.1 G.2.2 σ sh hap) hS r 1 he rfl h.1.in hdg (fun H1 locs1 hP1 hD1 hS1 => kK _ _ _ _ _ _ (h.2 _ rfl) hl ?_ hS1)
        have := vg_cw_set2 G.2.1 G.2.2 σ sh r (.inl (1, n, rs)) (vp_updL (σ.2 r) i.toNatClampNeg x) hr2
        simp only [vg_ce] at this
        rw [this] at hP1
        exact hP1
      · exact h.elim
    · exact h.elim
  | arraylength =>
    have hln : len = 1 := hln
    subst hln
    simp only [vg_ex] at h
    split at h
    · rename_i r st
      split at h
      · rename_i t n rs hr
        match t, hr with
        | 0, hr =>
          have he : (vg_cw G.2.1 G.2.2 σ 0 sh)[r]? = some (G.2.2 r, .inl (G.2.1 0, n, .inl (σ.1 r))) := by
            rw [vg_cw_at, ← vg_nth_eq, hr]
            simp [vg_ce]
          exact va_alen hx hb hE.1 hP r 0 he (ty := .int) rfl rfl hdg (kK _ _ _ _ _ _ h hl hP hS)
        | 1, hr =>
          have he : (vg_cw G.2.1 G.2.2 σ 0 sh)[r]? = some (G.2.2 r, .inl (G.2.1 1, n, .inr (.inl (σ.2 r)))) := by
            rw [vg_cw_at, ← vg_nth_eq, hr]
            simp [vg_ce]
          exact va_alen hx hb hE.1 hP r 1 he (ty := .long) rfl rfl hdg (kK _ _ _ _ _ _ h hl hP hS)
        | t + 2, hr =>
          have he : (vg_cw G.2.1 G.2.2 σ 0 sh)[r]? = some (G.2.2 r, .inl (G.2.1 (t + 2), n, .inr (.inr (.inr (.inr (fun j => (rs[j]?).map G.2.2)))))) := by
            rw [vg_cw_at, ← vg_nth_eq, hr]
            simp [vg_ce]
          rcases hsh r t n rs hr with rfl | rfl
          · exact va_alen hx hb hE.1 hP r 2 he (ty := .object "NoiseShaper$Fold") rfl rfl hdg (kK _ _ _ _ _ _ h hl hP hS)
          · exact va_alen hx hb hE.1 hP r 3 he (ty := .object "NoiseShaper$Latest") rfl rfl hdg (kK _ _ _ _ _ _ h hl hP hS)
      · split at h
        · rename_i n f hf
          exact va_tlen hx hb (hE.2.2.1 r n f hf) hS rfl hdg (kK _ _ _ _ _ _ h hl hP hS)
        · exact h.elim
      · exact h.elim
    · exact h.elim
  | invokevirtual i =>
    have hln : len = 3 := hln
    subst hln
    simp only [vg_ex] at h
    split at h
    · rename_i r o rest hr hd
      split at h
      · rename_i ci ks ho
        split at h
        · rename_i hci hn
          exact vg_goV (rt := rt) X hdg hlk hl hP hS hr hd ho hci hn h (fun st σ H locs hk hP hS => kK _ _ _ _ _ _ hk hl hP hS)
        · exact h.elim
      · exact h.elim
    · exact h.elim
  | invokestatic i =>
    have hln : len = 3 := hln
    subst hln
    simp only [vg_ex] at h
    split at h
    · simp only [vg_lks, Bool.and_eq_true] at hlk
      split at h
      · rename_i n dp kd sp ks rest
        split at h
        · rename_i n0 r0 n1 r1 hs hdd
          obtain ⟨h0, h1, h2, h3, h4, h5, h6⟩ := h
          obtain ⟨g1, g2, g3, g4, g5⟩ := hcp hlk.1
          have hd2 : sh[kd]? = some (.inl (0, n1, r1)) := by rw [← vg_nth_eq]; exact hdd
          have he0 : (vg_cw G.2.1 G.2.2 σ 0 sh)[ks]? = some (G.2.2 ks, .inl (G.2.1 0, n0, .inl (σ.1 ks))) := by
            rw [vg_cw_at, ← vg_nth_eq, hs]
            simp [vg_ce]
          have he1 : (vg_cw G.2.1 G.2.2 σ 0 sh)[kd]? = some (G.2.2 kd, .inl (G.2.1 0, n1, .inl (σ.1 kd))) := by
            rw [vg_cw_at, hd2]
            simp [vg_ce]
          refine va_copyi hx hb (hml.trans hl.1.1.symm) hown (hts _ (vg_wd_in hlk.2)) g3 g4 g5 hE.1 hP (vg_cw_D G.2.1 G.2.2 σ sh hap) hS ks kd 0 0 he0 he1 rfl rfl rfl (vg_nn h1) (vg_nn h2) (vg_nn h3) (by rw [vg_clamp, vg_clamp]; omega) (by rw [vg_clamp, vg_clamp]; omega) (fun i hi => rfl) g1 (by rw [vg_cat_eq]; omega) hdg (fun H1 locs1 hP1 hD1 hS1 => kK _ _ _ _ _ _ (h6 _ rfl) hl ?_ hS1)
          have := vg_cw_set1 G.2.1 G.2.2 σ sh kd (.inl (0, n1, r1)) (va_cpy (σ.1 ks) (σ.1 kd) sp.toNatClampNeg dp.toNatClampNeg n.toNatClampNeg) hd2
          simp only [vg_ce] at this
          rw [this] at hP1
          exact hP1
        · exact h.elim
      · exact h.elim
    · rename_i hb3
      split at h
      · rename_i r hr hn
        exact vg_goS (rt := rt) X hdg hb3 hlk hl hP hS hr hn h (fun st σ H locs hk hP hS => kK _ _ _ _ _ _ hk hl hP hS)
      · exact h.elim
  | ireturn =>
    have hln : len = 1 := hln
    subst hln
    simp only [vg_ex] at h
    split at h
    · rename_i x
      exact kR (some (.int x)) _ _ _ _ hok trivial h hl hP hS
    · rename_i x
      exact kR (some (.int x)) _ _ _ _ hok h.1 h.2 hl hP hS
    · exact h.elim
  | lreturn =>
    have hln : len = 1 := hln
    subst hln
    simp only [vg_ex] at h
    split at h
    · rename_i x
      exact kR (some (.long x)) _ _ _ _ hok trivial h hl hP hS
    · exact h.elim
  | areturn =>
    have hln : len = 1 := hln
    subst hln
    simp only [vg_ex] at h
    split at h
    · rename_i x
      exact kR (some (.ref x)) _ _ _ _ hok trivial h hl hP hS
    · exact h.elim
  | return_ =>
    have hln : len = 1 := hln
    subst hln
    simp only [vg_ex] at h
    split at h
    · exact kR none _ _ _ _ hok trivial h hl hP hS
    · exact h.elim
  | _ => exact False.elim h
end VGS
end
section
/-! from a walk to a contract -/
theorem vg_chain_tl {q : vg_I} {r : List vg_I} (h : vg_chain (q :: r) = true) : vg_chain r = true := by
  simp only [vg_chain, Bool.and_eq_true] at h
  exact h.2
theorem vg_chain_hd {q q2 : vg_I} {r : List vg_I} (h : vg_chain (q :: q2 :: r) = true) : q2.1 = q.1 + q.2.2.1 := by
  simp only [vg_chain, Bool.and_eq_true] at h
  exact (Nat.eq_of_beq_eq_true h.1).symm
theorem vg_find_good (f : vg_I → Bool) : ∀ (cd : List vg_I) (t : Nat), cd.all f = true → vg_chain cd = true → (vg_find cd t).all f = true ∧ vg_chain (vg_find cd t) = true ∧ ∀ q r, vg_find cd t = q :: r → q.1 = t
  | [], t, h1, h2 => ⟨rfl, rfl, fun q r h => by cases h⟩
  | q :: r, t, h1, h2 => by
    unfold vg_find
    split
    · rename_i hb
      exact ⟨h1, h2, fun q' r' h => by cases h; exact Nat.eq_of_beq_eq_true hb⟩
    · simp only [List.all_cons, Bool.and_eq_true] at h1
      exact vg_find_good f r t h1.2 (vg_chain_tl h2)
section VGM
variable {p : Program} {l : Launch} {e : Env} {R : Room} {s : State} {m : MethodId} {args : Array Value} {below : List Frame} {meth : Method} {c : Code} {cells slots : Nat} {Q : State → Prop}
variable {own : String} {cc : ByteArray} {nL : Nat} {G : vg_G} {sh : List vg_C} {ro : Nat → Option (Nat × (Nat → Int32))} {cs : List vg_R} {cp : Bool} {rt : Option FieldType} {po : Option Value → vg_S → Prop} {I : Nat → Option vg_V} {cd : List vg_I}
/-- a walk that may end at cuts -/
theorem vg_walk (X : vg_X p l R s m args c cells slots own cc nL G sh ro cs cp) (hsh : ∀ r t n rs, vg_nth sh r = some (.inl (t + 2, n, rs)) → t = 0 ∨ t = 1) (hcd : cd.all (vg_ok own cc cs rt cp) = true) (hch : vg_chain cd = true) (bd : Option Nat)
    (kH : ∀ h iv L σ H locs ls, I h = some iv → iv.2.1 L σ → vg_bd bd (iv.2.2 L σ) → vg_lr G.2.2 ls nL L → vg_P G sh σ H → va_S (vg_A G.2.2 sh.length) s.heap H locs → W p l e R s m args below meth c H locs cells slots Q (F0 m h ls []))
    (kR : ∀ pc op len a b c0 z L v σ H locs ls, vg_ok own cc cs rt cp (pc, op, len, a, b, c0, z) = true → vg_isret op z v → po v σ → vg_lr G.2.2 ls nL L → vg_P G sh σ H → va_S (vg_A G.2.2 sh.length) s.heap H locs → W p l e R s m args below meth c H locs cells slots Q (F0 m pc ls ((v.map (vg_cv G.2.2)).toList))) :
    ∀ (n : Nat) (fl : Bool) (q : vg_I) (nx : List vg_I) (L : vg_L) (st : List Value) (σ : vg_S) (H : Heap) (locs : List Loc) (ls : Array Slot), (q :: nx).all (vg_ok own cc cs rt cp) = true → vg_chain (q :: nx) = true → vg sh ro cs po I cd bd n fl (q :: nx) L st σ → vg_lr G.2.2 ls nL L → vg_P G sh σ H → va_S (vg_A G.2.2 sh.length) s.heap H locs → W p l e R s m args below meth c H locs cells slots Q (F0 m q.1 ls (st.map (vg_cv G.2.2))) := by
  intro n
  induction n with
  | zero => intro fl q nx L st σ H locs ls _ _ h; exact (h : False).elim
  | succ n ih =>
    intro fl q nx L st σ H locs ls h1 h2 h hl hP hS
    have main : vg_ex sh ro cs po (fun L st σ => vg sh ro cs po I cd bd n false nx L st σ) (fun L st σ t => vg sh ro cs po I cd bd n false (vg_find cd t) L st σ) q L st σ → W p l e R s m args below meth c H locs cells slots Q (F0 m q.1 ls (st.map (vg_cv G.2.2))) := by
      intro h
      obtain ⟨pc, op, len, a, b, c0, z⟩ := q
      have h1' := h1
      simp only [List.all_cons, Bool.and_eq_true] at h1'
      refine vg_ex_sound X hsh h1'.1 hl hP hS h (fun L st σ H locs ls hk hl hP hS => ?_) (fun L st σ t H locs ls hk hl hP hS => ?_) (fun v σ H locs ls => kR pc op len a b c0 z L v σ H locs ls)
      · cases nx with
        | nil => cases n <;> exact (hk : False).elim
        | cons q2 r =>
          have he := vg_chain_hd h2
          have := ih false q2 r L st σ H locs ls h1'.2 (vg_chain_tl h2) hk hl hP hS
          rw [he] at this
          exact this
      · have hf := vg_find_good _ cd t hcd hch
        cases hv : vg_find cd t with
        | nil => rw [hv] at hk; cases n <;> exact (hk : False).elim
        | cons q2 r =>
          rw [hv] at hk hf
          have := ih false q2 r L st σ H locs ls hf.1 hf.2.1 hk hl hP hS
          rw [hf.2.2 q2 r rfl] at this
          exact this
    cases fl with
    | true => exact main h
    | false =>
      have h : (match I q.1 with
        | none => vg_ex sh ro cs po (fun L st σ => vg sh ro cs po I cd bd n false nx L st σ) (fun L st σ t => vg sh ro cs po I cd bd n false (vg_find cd t) L st σ) q L st σ
        | some iv => st = [] ∧ iv.2.1 (vg_mask iv.1 L) σ ∧ vg_bd bd (iv.2.2 (vg_mask iv.1 L) σ)) := h
      cases hi : I q.1 with
      | none => rw [hi] at h; exact main h
      | some iv =>
        rw [hi] at h
        obtain ⟨rfl, h3, h4⟩ := h
        exact kH q.1 iv (vg_mask iv.1 L) σ H locs ls hi h3 h4 (hl.mask _) hP hS
theorem vg_loops (X : vg_X p l R s m args c cells slots own cc nL G sh ro cs cp) (hsh : ∀ r t n rs, vg_nth sh r = some (.inl (t + 2, n, rs)) → t = 0 ∨ t = 1) (hcd : cd.all (vg_ok own cc cs rt cp) = true) (hch : vg_chain cd = true) (N : Nat)
    (hI : ∀ h iv, I h = some iv → ∀ L σ, iv.2.1 L σ → vg sh ro cs po I cd (some (iv.2.2 L σ)) N true (vg_find cd h) L [] σ)
    (kR : ∀ pc op len a b c0 z L v σ H locs ls, vg_ok own cc cs rt cp (pc, op, len, a, b, c0, z) = true → vg_isret op z v → po v σ → vg_lr G.2.2 ls nL L → vg_P G sh σ H → va_S (vg_A G.2.2 sh.length) s.heap H locs → W p l e R s m args below meth c H locs cells slots Q (F0 m pc ls ((v.map (vg_cv G.2.2)).toList))) :
    ∀ (k : Nat) h iv L σ H locs ls, I h = some iv → iv.2.1 L σ → iv.2.2 L σ ≤ k → vg_lr G.2.2 ls nL L → vg_P G sh σ H → va_S (vg_A G.2.2 sh.length) s.heap H locs → W p l e R s m args below meth c H locs cells slots Q (F0 m h ls []) := by
  intro k
  induction k using Nat.strongRecOn with
  | ind k ih =>
    intro h iv L σ H locs ls hi h3 hk hl hP hS
    have hw := hI h iv hi L σ h3
    have hf := vg_find_good _ cd h hcd hch
    cases hv : vg_find cd h with
    | nil => rw [hv] at hw; cases N <;> exact (hw : False).elim
    | cons q2 r =>
      rw [hv] at hw hf
      have := vg_walk (e := e) (below := below) (meth := meth) (Q := Q) X hsh hcd hch (some (iv.2.2 L σ)) (fun h' iv' L' σ' H' locs' ls' hi' h3' hb' hl' hP' hS' => ih (iv'.2.2 L' σ') (by have hb' : iv'.2.2 L' σ' < iv.2.2 L σ := hb'; omega) h' iv' L' σ' H' locs' ls' hi' h3' (Nat.le_refl _) hl' hP' hS') kR N true q2 r L [] σ H locs ls hf.1 hf.2.1 hw hl hP hS
      rw [hf.2.2 q2 r rfl] at this
      exact this
/-- a walk from any instruction -/
theorem vg_sound (X : vg_X p l R s m args c cells slots own cc nL G sh ro cs cp) (hsh : ∀ r t n rs, vg_nth sh r = some (.inl (t + 2, n, rs)) → t = 0 ∨ t = 1) (hcd : cd.all (vg_ok own cc cs rt cp) = true) (hch : vg_chain cd = true) (N : Nat)
    (hI : ∀ h iv, I h = some iv → ∀ L σ, iv.2.1 L σ → vg sh ro cs po I cd (some (iv.2.2 L σ)) N true (vg_find cd h) L [] σ)
    (kR : ∀ pc op len a b c0 z L v σ H locs ls, vg_ok own cc cs rt cp (pc, op, len, a, b, c0, z) = true → vg_isret op z v → po v σ → vg_lr G.2.2 ls nL L → vg_P G sh σ H → va_S (vg_A G.2.2 sh.length) s.heap H locs → W p l e R s m args below meth c H locs cells slots Q (F0 m pc ls ((v.map (vg_cv G.2.2)).toList)))
    (n : Nat) (fl : Bool) (q : vg_I) (nx : List vg_I) (L : vg_L) (st : List Value) (σ : vg_S) (H : Heap) (locs : List Loc) (ls : Array Slot) (h1 : (q :: nx).all (vg_ok own cc cs rt cp) = true) (h2 : vg_chain (q :: nx) = true) (h : vg sh ro cs po I cd none n fl (q :: nx) L st σ) (hl : vg_lr G.2.2 ls nL L) (hP : vg_P G sh σ H) (hS : va_S (vg_A G.2.2 sh.length) s.heap H locs) : W p l e R s m args below meth c H locs cells slots Q (F0 m q.1 ls (st.map (vg_cv G.2.2))) :=
  vg_walk X hsh hcd hch none (fun h' iv' L' σ' H' locs' ls' hi' h3' _ hl' hP' hS' => vg_loops X hsh hcd hch N hI kR _ h' iv' L' σ' H' locs' ls' hi' h3' (Nat.le_refl _) hl' hP' hS') kR n fl q nx L st σ H locs ls h1 h2 h hl hP hS
end VGM
theorem vg_sl_len (ad : Nat → Nat) : ∀ as : List Value, (lg_sl (as.map (vg_cv ad))).length = vg_cat as
  | [] => rfl
  | v :: r => by
    have h := vg_sl_len ad r
    have hv := vg_cv_cat ad v
    simp only [List.map_cons, vg_cat, lg_sl, List.flatMap_cons, List.length_append] at h ⊢
    rw [h]
    congr 1
    rw [← hv]
    generalize vg_cv ad v = w
    cases w <;> simp [Value.category]
def vg_rk (rt : Option FieldType) : Nat := match rt with
  | none => 0
  | some .int => 1
  | some .boolean => 1
  | some .long => 2
  | _ => 3
def vg_cpw : List Cond := [.native arraycopyName, .static arraycopyName, .initialized "java/lang/System"]
set_option maxHeartbeats 1000000 in
/-- A METHOD: its code walked gives its contract -/
theorem vg_meth {l : Launch} {G : vg_G} {sh : List vg_C} (hap : ∀ i j, i < sh.length → j < sh.length → G.2.2 i = G.2.2 j → i = j) (hsh : ∀ r t n rs, vg_nth sh r = some (.inl (t + 2, n, rs)) → t = 0 ∨ t = 1) (r : vg_R) (hrok : vg_rok r) (hrk : r.1.2.2.2.2.2.2.1 = vg_rk r.1.2.2.2.1) (hrf : r.1.2.2.2.1 = some (.array .int) → ∀ as σ k σ', r.2.2 as σ (some (.ref k)) σ' → k ∈ r.1.2.2.2.2.2.2.2.1)
    (cd : List vg_I) (cs : List vg_R) (cp : Bool) (hcd : cd.all (vg_ok r.1.1.cls r.1.2.1 cs r.1.2.2.2.1 cp) = true) (hch : vg_chain cd = true) (hc0 : ∃ q nx, cd = q :: nx ∧ q.1 = 0) (hcs : ∀ x ∈ cs, vg_Ct l G sh x ∧ x.1.2.2.2.2.1 + 1 ≤ r.1.2.2.2.2.1 ∧ 8 + (x.1.2.2.1 + 11) + x.1.2.2.2.2.2.1 ≤ r.1.2.2.2.2.2.1) (hcp : cp = true → (1 ≤ r.1.2.2.2.2.1 ∧ 8 + (nativeFrameWords "java/lang/System" "arraycopy" 5 + 11) ≤ r.1.2.2.2.2.2.1) ∧ ∀ w ∈ vg_cpw, w ∈ vg_GW)
    (N : Nat) (h0 : ∀ as σ, r.2.1 as σ → vg_cat as ≤ r.1.2.2.1 ∧ ∃ Il : List (Nat × vg_V), vg sh vg_ro0 cs (r.2.2 as σ) (vg_lkp Il) cd none N true cd (vg_pad r.1.2.2.1 (vg_l0 as)) [] σ ∧ ∀ q ∈ Il, ∀ L σ', q.2.2.1 L σ' → vg sh vg_ro0 cs (r.2.2 as σ) (vg_lkp Il) cd (some (q.2.2.2 L σ')) N true (vg_find cd q.1) L [] σ') : vg_Ct l G sh r := by
  refine ⟨hrok, fun as σ hpre => ?_⟩
  obtain ⟨hcode, hini, hnm, hpl, hst⟩ := id hrok
  obtain ⟨hsz, Il, hw, hI0⟩ := h0 as σ hpre
  have hI := fun h iv (hh : vg_lkp Il h = some iv) => hI0 (h, iv) (vg_lkp_in Il h iv hh)
  refine va_MetF (cc := r.1.2.1) (maxL := r.1.2.2.1) (ret := r.1.2.2.2.1) hpl rfl ?_
  intro p e s m args below meth c s₁ B hml hv
  obtain ⟨rfl, hP, hE⟩ := hv
  have hts0 := atoms_spec (ws := Cond.code r.1.1 r.1.2.1 r.1.2.2.1 r.1.2.2.2.1 :: vg_GW) B.pre
  have hts : ∀ w ∈ vg_GW, w.before _ s = true := fun w hw => hts0 w (List.mem_cons_of_mem _ hw)
  have hown : s.vm.findClass r.1.1.cls = some m.cls := findClass_of_methodNamed B.named
  have hlocks := B.notSynchronized
  have hret := B.returns
  have X : vg_X p l (headSpec (Cond.code r.1.1 r.1.2.1 r.1.2.2.1 r.1.2.2.2.1 :: vg_GW) { frames := r.1.2.2.2.2.1, cells := 0, slots := 0, locals := r.1.2.2.2.2.2.1 }).room s m (as.map (vg_cv G.2.2)).toArray c 0 0 r.1.1.cls r.1.2.1 r.1.2.2.1 G sh vg_ro0 cs cp :=
    ⟨B.exec, B.bytes, hml, hown, hts, hap, hE, fun _ _ h => h, hcs, fun q => ⟨(hcp q).1.1, (hcp q).1.2, hts _ ((hcp q).2 _ (by simp [vg_cpw])), hts _ ((hcp q).2 _ (by simp [vg_cpw])), hts _ ((hcp q).2 _ (by simp [vg_cpw]))⟩, Nat.le_refl _, Nat.le_refl _⟩
  rw [lg_entry_eq]
  have hl := vg_entry G.2.2 as r.1.2.2.1 (by rw [vg_sl_len]; exact hsz)
  obtain ⟨q, nx, hq, hq0⟩ := hc0
  have fin : ∀ pc op len a b c0 z L v σ' H locs ls, vg_ok r.1.1.cls r.1.2.1 cs r.1.2.2.2.1 cp (pc, op, len, a, b, c0, z) = true → vg_isret op z v → r.2.2 as σ v σ' → vg_lr G.2.2 ls r.1.2.2.1 L → vg_P G sh σ' H → va_S (vg_A G.2.2 sh.length) s.heap H locs → W p l e (headSpec (Cond.code r.1.1 r.1.2.1 r.1.2.2.1 r.1.2.2.2.1 :: vg_GW) { frames := r.1.2.2.2.2.1, cells := 0, slots := 0, locals := r.1.2.2.2.2.2.1 }).room s m (as.map (vg_cv G.2.2)).toArray below meth c H locs 0 0 (MQ below (vg_Q G sh r as σ) (as.map (vg_cv G.2.2)).toArray s 0 0 (vg_A G.2.2 sh.length)) (F0 m pc ls ((v.map (vg_cv G.2.2)).toList)) := by
    intro pc op len a b c0 z L v σ' H locs ls hok hir hpo hl hP hS
    obtain ⟨hdg, hln, hlk, -⟩ := vg_ok_spec hok
    have hq : ∀ rf : vg_rf r v, ∀ t : State, t.heap = H → s.WarmedH t.vm → vg_Q G sh r as σ (as.map (vg_cv G.2.2)).toArray s (.returned (v.map (vg_cv G.2.2))) t := fun rf t ht _ => ⟨⟨v, σ', rfl, rf, hpo, by rw [ht]; exact hP⟩, hS.F ht⟩
    unfold vg_isret at hir
    split at hir
    · have hrt : r.1.2.2.2.1 = some .int := of_decide_eq_true hlk
      have hln : len = 1 := hln
      subst hln
      exact W.zret B.exec B.bytes (hret.trans hrt) rfl (hq (by unfold vg_rf; rw [hrk, hrt]; exact ⟨_, rfl⟩)) hS.2.2 hdg
    · have hrt : r.1.2.2.2.1 = some .boolean := of_decide_eq_true hlk
      have hln : len = 1 := hln
      subst hln
      refine W.zret B.exec B.bytes (hret.trans hrt) ?_ (hq (by unfold vg_rf; rw [hrk, hrt]; exact ⟨_, rfl⟩)) hS.2.2 hdg
      rcases hir with rfl | rfl <;> rfl
    · have hrt : r.1.2.2.2.1 = some .long := of_decide_eq_true hlk
      have hln : len = 1 := hln
      subst hln
      exact W.lret B.exec B.bytes (hret.trans hrt) (hq (by unfold vg_rf; rw [hrk, hrt]; exact ⟨_, rfl⟩)) hS.2.2 hdg
    · have hrt : r.1.2.2.2.1 = some (.array .int) := of_decide_eq_true hlk
      have hln : len = 1 := hln
      subst hln
      exact W.aret B.exec B.bytes (hret.trans hrt) (Or.inr ⟨_, rfl⟩) (Or.inr ⟨_, rfl⟩) (hq (by unfold vg_rf; rw [hrk, hrt]; exact ⟨_, hrf hrt _ _ _ _ hpo, rfl⟩)) hS.2.2 hdg
    · have hrt : r.1.2.2.2.1 = none := of_decide_eq_true hlk
      have hln : len = 1 := hln
      subst hln
      exact W.vret B.exec B.bytes (hret.trans hrt) (hq (by unfold vg_rf; rw [hrk, hrt]; rfl)) hS.2.2 hdg
    · exact hir.elim
  subst hq
  have := vg_sound (e := e) (below := below) (meth := meth) X hsh hcd hch N hI fin N true q nx _ [] σ s.heap [] _ hcd hch hw hl hP va_S.rf
  rw [hq0] at this
  exact this
/-- the machine has rows of its own only for Math's members on floats and doubles -/
theorem vg_mathRows : (Jvm.natives.all fun r => r.cls != "java/lang/Math" || ["(D)D", "(DD)D", "(DDD)D", "(F)F", "(FF)F", "(FFF)F"].contains r.desc) = true := by decide +kernel
theorem vg_mathPlain {x : MethodName} (hc : x.cls = "java/lang/Math") (hd : ["(D)D", "(DD)D", "(DDD)D", "(F)F", "(FF)F", "(FFF)F"].contains x.desc = false) : plainFor x = true := by
  unfold plainFor
  rw [Bool.or_eq_true]; right
  rw [Option.isNone_iff_eq_none, NativeRow.find?, List.find?_eq_none]
  intro r hr h
  have := List.all_eq_true.mp vg_mathRows r hr
  simp only [Bool.and_eq_true, beq_iff_eq] at h
  rw [h.1.2, h.2, hc, hd] at this
  simp at this
end
section
/-! the places of the class's cells (0 to 54) and the reference's (55 to 67); what always holds; what most calls keep -/
def vg_sh : List vg_C := [.inr (10, [0, 0, 0, 3, 5, 9, 14, 18, 20, 21, 22, 24, 28, 33]), .inr (7, [0, 0, 0, 0, 4]), .inl (0, 16, []), .inr (5, [6, 7, 8, 0, 0, 0, 0, 0, 0, 1, 1, 1, 1, 1]), .inr (6, [0, 0, 0, 0, 0, 0, 0, 0]), .inl (0, 4, []), .inl (0, 6, []), .inr (2, [0, 0, 0, 0, 10, 11, 12, 13, 1, 1, 1]), .inl (0, 16, []), .inl (0, 16, []), .inl (0, 16, []), .inl (0, 16, []), .inr (1, [0, 0, 0, 0, 15, 16, 0, 0, 1, 17]), .inl (1, 5, []), .inl (1, 5, []), .inl (0, 76, []), .inr (8, [19, 0]), .inl (0, 7, []), .inl (2, 3, [35, 37, 39]), .inl (3, 7, [41, 43, 45, 47, 49, 51, 53]), .inr (0, [23, 0]), .inl (0, 12, []), .inr (5, [25, 26, 27, 0, 0, 0, 0, 0, 0, 1, 1, 1, 1, 1]), .inr (6, [0, 0, 0, 0, 0, 0, 0, 0]), .inl (0, 4, []), .inl (0, 6, []), .inr (2, [0, 0, 0, 0, 29, 30, 31, 32, 1, 1, 1]), .inl (0, 16, []), .inl (0, 16, []), .inl (0, 16, []), .inl (0, 16, []), .inr (9, [34, 35, 36, 0, 0, 0]), .inl (0, 1000, []), .inl (0, 10010, []), .inl (0, 2048, []), .inr (3, [0, 38, 0, 0]), .inl (0, 16, []), .inr (3, [0, 40, 0, 0]), .inl (0, 16, []), .inr (3, [0, 42, 0, 0]), .inl (0, 16, []), .inr (4, [44, 0, 0, 0]), .inl (0, 64, []), .inr (4, [46, 0, 0, 0]), .inl (0, 64, []), .inr (4, [48, 0, 0, 0]), .inl (0, 64, []), .inr (4, [50, 0, 0, 0]), .inl (0, 64, []), .inr (4, [52, 0, 0, 0]), .inl (0, 64, []), .inr (4, [54, 0, 0, 0]), .inl (0, 64, []), .inr (4, [56, 0, 0, 0]), .inl (0, 64, []), .inr (11, [58, 59, 0, 0, 0, 0, 0, 0, 0, 0, 0, 0, 0, 0, 0, 0, 0, 0, 0, 0, 0, 0, 60, 61, 62, 63, 64, 65, 66, 67, 0, 0, 68, 0, 69]), .inl (1, 481, []), .inl (1, 481, []), .inl (0, 16, []), .inl (0, 16, []), .inl (0, 3, []), .inl (0, 4, []), .inl (0, 80, []), .inl (0, 80, []), .inl (1, 17017, []), .inl (0, 1000, []), .inl (0, 13, []), .inl (1, 481, [])]
def vg_shb : List vg_C → Bool
  | [] => true
  | .inl (t, _, _) :: r => Nat.ble t 3 && vg_shb r
  | .inr _ :: r => vg_shb r
theorem vg_shb_go : ∀ (sh : List vg_C), vg_shb sh = true → ∀ r t n rs, vg_nth sh r = some (.inl (t + 2, n, rs)) → t = 0 ∨ t = 1
  | [], _, r, t, n, rs, h => by cases h
  | .inl (t0, n0, r0) :: l, hb, 0, t, n, rs, h => by
    simp only [vg_shb, Bool.and_eq_true] at hb
    have := Nat.le_of_ble_eq_true hb.1
    simp only [vg_nth, Option.some.injEq, Sum.inl.injEq, Prod.mk.injEq] at h
    omega
  | .inr x :: l, hb, 0, t, n, rs, h => by cases h
  | .inl (t0, n0, r0) :: l, hb, r + 1, t, n, rs, h => by
    simp only [vg_shb, Bool.and_eq_true] at hb
    exact vg_shb_go l hb.2 r t n rs h
  | .inr x :: l, hb, r + 1, t, n, rs, h => vg_shb_go l hb r t n rs h
theorem vg_sh_ok : ∀ r t n rs, vg_nth vg_sh r = some (.inl (t + 2, n, rs)) → t = 0 ∨ t = 1 := vg_shb_go vg_sh (by decide +kernel)
/-! numbers -/
theorem vg_add {x y v : Int32} (e : v = x + y) (h1 : -2147483648 ≤ x.toInt + y.toInt) (h2 : x.toInt + y.toInt ≤ 2147483647) : v.toInt = x.toInt + y.toInt := by
  rw [e, Int32.toInt_add]
  simp only [Int.bmod]
  omega
theorem vg_sub {x y v : Int32} (e : v = x - y) (h1 : -2147483648 ≤ x.toInt - y.toInt) (h2 : x.toInt - y.toInt ≤ 2147483647) : v.toInt = x.toInt - y.toInt := by
  rw [e, Int32.toInt_sub]
  simp only [Int.bmod]
  omega
theorem vg_mul {x y v : Int32} (e : v = x * y) (h1 : -2147483648 ≤ x.toInt * y.toInt) (h2 : x.toInt * y.toInt ≤ 2147483647) : v.toInt = x.toInt * y.toInt := by
  rw [e, Int32.toInt_mul]
  generalize x.toInt * y.toInt = z at h1 h2
  simp only [Int.bmod]
  omega
theorem vg_and {x y v : Int32} (e : v = x &&& y) (h : 0 ≤ y.toInt) : 0 ≤ v.toInt ∧ v.toInt ≤ y.toInt := by
  subst e
  have hy : y.toBitVec.msb = false := by
    rw [BitVec.msb_eq_false_iff_two_mul_lt]
    have h2 : y.toInt = y.toBitVec.toInt := rfl
    rw [h2, BitVec.toInt_eq_toNat_cond] at h
    split at h
    · assumption
    · have := y.toBitVec.isLt
      omega
  have hle : (x &&& y).toBitVec.toNat ≤ y.toBitVec.toNat := by
    show (x.toBitVec &&& y.toBitVec).toNat ≤ _
    rw [BitVec.toNat_and]
    exact Nat.and_le_right
  have hz : (x &&& y).toBitVec.msb = false := by
    rw [BitVec.msb_eq_false_iff_two_mul_lt] at hy ⊢
    omega
  have e1 : (x &&& y).toInt = ((x &&& y).toBitVec.toNat : Int) := by
    show (x &&& y).toBitVec.toInt = _
    exact BitVec.toInt_eq_toNat_of_msb hz
  have e2 : y.toInt = (y.toBitVec.toNat : Int) := by
    show y.toBitVec.toInt = _
    exact BitVec.toInt_eq_toNat_of_msb hy
  rw [e1, e2]
  omega
theorem vg_rng (x : Int32) : -2147483648 ≤ x.toInt ∧ x.toInt ≤ 2147483647 := by
  have h1 := Int32.le_toInt x
  have h2 := Int32.toInt_lt x
  omega
theorem vg_div {x y v : Int32} (e : v = x / y) (hx : 0 ≤ x.toInt) (hy : 0 < y.toInt) : v.toInt = x.toInt / y.toInt := by
  have h2 := vg_rng x
  rw [e, Int32.toInt_div, Int.tdiv_eq_ediv_of_nonneg hx]
  have h3 : x.toInt / y.toInt ≤ x.toInt := Int.ediv_le_self _ hx
  have h4 : 0 ≤ x.toInt / y.toInt := Int.ediv_nonneg hx (by omega)
  generalize x.toInt / y.toInt = z at h3 h4
  simp only [Int.bmod]
  omega
theorem vg_rem {x y v : Int32} (e : v = x - x / y * y) (hx : 0 ≤ x.toInt) (hy : 0 < y.toInt) : v.toInt = x.toInt % y.toInt ∧ 0 ≤ v.toInt ∧ v.toInt < y.toInt := by
  have h2 := vg_rng x
  have hd := vg_div (v := x / y) rfl hx hy
  have hem := Int.emod_add_mul_ediv x.toInt y.toInt
  have hm0 := Int.emod_nonneg x.toInt (by omega : y.toInt ≠ 0)
  have hm1 := Int.emod_lt_of_pos x.toInt hy
  have h5 : 0 ≤ x.toInt / y.toInt := Int.ediv_nonneg hx (by omega)
  have h6 : x.toInt / y.toInt * y.toInt = y.toInt * (x.toInt / y.toInt) := Int.mul_comm _ _
  have hp : 0 ≤ x.toInt / y.toInt * y.toInt := Int.mul_nonneg h5 (by omega)
  have hm := vg_mul (x := x / y) (y := y) (v := x / y * y) rfl (by rw [hd]; omega) (by rw [hd]; omega)
  rw [hd] at hm
  have hs := vg_sub (x := x) (y := x / y * y) (v := v) e (by rw [hm]; omega) (by rw [hm]; omega)
  rw [hs, hm]
  refine ⟨by omega, by omega, by omega⟩
theorem vg_l2i {x : Int64} {v : Int32} (e : v = x.toInt32) (h1 : -2147483648 ≤ x.toInt) (h2 : x.toInt ≤ 2147483647) : v.toInt = x.toInt := by
  rw [e, Int64.toInt_toInt32]
  simp only [Int.bmod]
  omega
theorem vg_i2l {x : Int32} {v : Int64} (e : v = x.toInt64) : v.toInt = x.toInt := by rw [e, Int32.toInt_toInt64]
theorem vg_ladd {x y v : Int64} (e : v = x + y) (h1 : -9223372036854775808 ≤ x.toInt + y.toInt) (h2 : x.toInt + y.toInt ≤ 9223372036854775807) : v.toInt = x.toInt + y.toInt := by
  rw [e, Int64.toInt_add]
  simp only [Int.bmod]
  omega
theorem vg_eqi {x y : Int32} (h : x.toInt = y.toInt) : x = y := Int32.toInt_inj.mp h
theorem vg_cn (x : Int32) : (x.toNatClampNeg : Int) = if 0 ≤ x.toInt then x.toInt else 0 := by
  have : x.toNatClampNeg = x.toInt.toNat := rfl
  split <;> omega
theorem vg_01 {x : Int32} (h1 : 0 ≤ x.toInt) (h2 : x.toInt ≤ 1) : x = 0 ∨ x = 1 := by
  rcases (show x.toInt = 0 ∨ x.toInt = 1 by omega) with h | h
  · exact Or.inl (vg_eqi (by rw [h]; rfl))
  · exact Or.inr (vg_eqi (by rw [h]; rfl))
theorem vg_of01 {x : Int32} (h : x = 0 ∨ x = 1) : 0 ≤ x.toInt ∧ x.toInt ≤ 1 := by
  rcases h with rfl | rfl <;> decide
def vg_cons : List (Nat × Nat × Int × Int) := [(0, 2, 0, 3), (1, 3, 1, 1000), (4, 1, 1, 4), (4, 2, 1, 5000), (4, 3, 2, 17), (4, 4, 1, 60000), (4, 5, 0, 1), (4, 6, 0, 5000), (23, 1, 1, 4), (23, 2, 1, 5000), (23, 3, 2, 17), (23, 4, 1, 60000), (23, 5, 0, 1), (23, 6, 0, 5000), (7, 0, 1, 16), (26, 0, 1, 16), (12, 0, 1, 5), (12, 1, 1, 16), (12, 2, 8, 32), (20, 1, 0, 12), (41, 2, 0, 48), (43, 2, 0, 48), (45, 2, 0, 48), (47, 2, 0, 48), (49, 2, 0, 48), (51, 2, 0, 48), (53, 2, 0, 48), (55, 6, 1, 1000), (55, 8, 1, 4), (55, 10, 2, 17), (55, 12, 0, 5000), (55, 16, 1, 5), (55, 17, 1, 16), (55, 20, 0, 3), (55, 33, 0, 12)]
/-- how many elements the reference has -/
def vg_me (σ : vg_S) : Int32 := if (σ.1 55 7).toInt = 2 then (σ.1 55 10 - Int32.ofInt 1) * ((Int32.ofInt 1 <<< (σ.1 55 8 &&& (31 : Int32))) - Int32.ofInt 1) else σ.1 55 10 - Int32.ofInt 1
def Iv (σ : vg_S) : Prop := (∀ q ∈ vg_cons, q.2.2.1 ≤ (σ.1 q.1 q.2.1).toInt ∧ (σ.1 q.1 q.2.1).toInt ≤ q.2.2.2) ∧ 1 ≤ (vg_me σ).toInt ∧ (vg_me σ).toInt ≤ 16
theorem Iv.at {σ : vg_S} (h : Iv σ) (n : Nat) {q : Nat × Nat × Int × Int} (hq : vg_nth vg_cons n = some q) : q.2.2.1 ≤ (σ.1 q.1 q.2.1).toInt ∧ (σ.1 q.1 q.2.1).toInt ≤ q.2.2.2 := h.1 q (by rw [vg_nth_eq] at hq; exact List.mem_of_getElem? hq)
/-- slots that no word speaks of -/
def vg_fr (k i : Nat) : Bool := vg_cons.all (fun q => !(Nat.beq q.1 k && Nat.beq q.2.1 i)) && !(Nat.beq k 55 && Nat.beq i 7)
/-- rows that no word speaks of -/
def vg_fa (k : Nat) : Bool := vg_cons.all (fun q => !(Nat.beq q.1 k)) && !(Nat.beq k 55)
theorem vg_me_eq {σ σ' : vg_S} (h7 : σ'.1 55 7 = σ.1 55 7) (h8 : σ'.1 55 8 = σ.1 55 8) (h10 : σ'.1 55 10 = σ.1 55 10) : vg_me σ' = vg_me σ := by
  unfold vg_me
  rw [h7, h8, h10]
theorem vg_beq {a b : Nat} (h : a ≠ b) : Nat.beq a b = false := by
  cases hb : Nat.beq a b with
  | false => rfl
  | true => exact (h (Nat.eq_of_beq_eq_true hb)).elim
theorem vg_u1_at {σ : vg_S} {k i : Nat} {x : Int32} {a b : Nat} (h : ¬ (a = k ∧ b = i)) : (vg_u1 σ k i x).1 a b = σ.1 a b := by
  simp only [vg_u1, vg_w1, upd]
  split
  · rename_i ha
    subst ha
    show (if b = i then x else σ.1 a b) = _
    rw [if_neg (fun hb => h ⟨rfl, hb⟩)]
  · rfl
theorem vg_u1_self {σ : vg_S} {k i : Nat} {x : Int32} : (vg_u1 σ k i x).1 k i = x := by simp [vg_u1, vg_w1, upd]
theorem vg_u2_at {σ : vg_S} {k i : Nat} {x : Int64} {a b : Nat} (h : ¬ (a = k ∧ b = i)) : (vg_u2 σ k i x).2 a b = σ.2 a b := by
  simp only [vg_u2, vg_w2, vp_updL]
  split
  · rename_i ha
    subst ha
    show (if b = i then x else σ.2 a b) = _
    rw [if_neg (fun hb => h ⟨rfl, hb⟩)]
  · rfl
theorem vg_u2_self {σ : vg_S} {k i : Nat} {x : Int64} : (vg_u2 σ k i x).2 k i = x := by simp [vg_u2, vg_w2, vp_updL]
theorem vg_u1_ne {σ : vg_S} {k i : Nat} {x : Int32} {a : Nat} (h : a ≠ k) : (vg_u1 σ k i x).1 a = σ.1 a := by simp only [vg_u1, vg_w1]; rw [if_neg h]
theorem vg_u2_1 {σ : vg_S} {k i : Nat} {x : Int64} : (vg_u2 σ k i x).1 = σ.1 := rfl
theorem vg_w1_at {σ : vg_S} {k : Nat} {f : Nat → Int32} {a : Nat} (h : a ≠ k) : (vg_w1 σ k f).1 a = σ.1 a := by simp only [vg_w1]; rw [if_neg h]
theorem Iv.of {σ σ' : vg_S} (h : Iv σ) (he : ∀ q ∈ vg_cons, σ'.1 q.1 q.2.1 = σ.1 q.1 q.2.1) (h7 : σ'.1 55 7 = σ.1 55 7) : Iv σ' := by
  refine ⟨fun q hq => by rw [he q hq]; exact h.1 q hq, ?_⟩
  rw [vg_me_eq h7 (he (55, 8, 1, 4) (by decide)) (he (55, 10, 2, 17) (by decide))]
  exact h.2
theorem Iv.u1 {σ σ' : vg_S} {k i : Nat} {x : Int32} (h : Iv σ) (e : σ' = vg_u1 σ k i x) (hf : vg_fr k i = true) : Iv σ' := by
  subst e
  simp only [vg_fr, Bool.and_eq_true, List.all_eq_true, Bool.not_eq_true', Bool.and_eq_false_iff] at hf
  refine h.of (fun q hq => vg_u1_at ?_) (vg_u1_at ?_)
  · rintro ⟨h1, h2⟩
    rcases hf.1 q hq with h3 | h3
    · rw [h1] at h3; simp at h3
    · rw [h2] at h3; simp at h3
  · rintro ⟨rfl, rfl⟩
    rcases hf.2 with h3 | h3 <;> simp at h3
theorem Iv.a1 {σ σ' : vg_S} {k i : Nat} {x : Int32} (h : Iv σ) (e : σ' = vg_u1 σ k i x) (hf : vg_fa k = true) : Iv σ' := by
  subst e
  simp only [vg_fa, Bool.and_eq_true, List.all_eq_true, Bool.not_eq_true'] at hf
  refine h.of (fun q hq => vg_u1_at ?_) (vg_u1_at ?_)
  · rintro ⟨h1, h2⟩
    have h3 := hf.1 q hq
    rw [h1] at h3; simp at h3
  · rintro ⟨rfl, rfl⟩
    have h3 := hf.2
    simp at h3
theorem Iv.w1 {σ σ' : vg_S} {k : Nat} {f : Nat → Int32} (h : Iv σ) (e : σ' = vg_w1 σ k f) (hf : vg_fa k = true) : Iv σ' := by
  subst e
  simp only [vg_fa, Bool.and_eq_true, List.all_eq_true, Bool.not_eq_true'] at hf
  refine h.of (fun q hq => ?_) ?_
  · have h3 := hf.1 q hq
    simp only [vg_w1]
    rw [if_neg]
    intro h1
    rw [h1] at h3; simp at h3
  · have h3 := hf.2
    simp only [vg_w1]
    rw [if_neg]
    intro h1
    rw [← h1] at h3; simp at h3
theorem Iv.u2 {σ σ' : vg_S} {k i : Nat} {x : Int64} (h : Iv σ) (e : σ' = vg_u2 σ k i x) : Iv σ' := by
  subst e
  exact h.of (fun q hq => rfl) rfl
/-- a slot with a word (not the reference's loop, order, levels) gets a number that keeps it -/
def vg_cb (k i : Nat) (lo hi : Int) : Bool := vg_cons.all (fun q => !(Nat.beq q.1 k && Nat.beq q.2.1 i) || (decide (q.2.2.1 = lo) && decide (q.2.2.2 = hi))) && !(Nat.beq k 55 && (Nat.beq i 7 || Nat.beq i 8 || Nat.beq i 10))
theorem Iv.c1 {σ σ' : vg_S} {k i : Nat} {x : Int32} {lo hi : Int} (h : Iv σ) (e : σ' = vg_u1 σ k i x) (hf : vg_cb k i lo hi = true) (h1 : lo ≤ x.toInt) (h2 : x.toInt ≤ hi) : Iv σ' := by
  subst e
  simp only [vg_cb, Bool.and_eq_true, List.all_eq_true, Bool.not_eq_true', Bool.or_eq_true, decide_eq_true_eq, Bool.and_eq_false_iff, Bool.or_eq_false_iff] at hf
  refine ⟨fun q hq => ?_, ?_⟩
  · by_cases hq2 : q.1 = k ∧ q.2.1 = i
    · rcases hf.1 q hq with h3 | h3
      · rcases h3 with h3 | h3
        · rw [hq2.1] at h3; simp at h3
        · rw [hq2.2] at h3; simp at h3
      · rw [hq2.1, hq2.2, vg_u1_self, h3.1, h3.2]
        exact ⟨h1, h2⟩
    · rw [vg_u1_at hq2]
      exact h.1 q hq
  · have ne : ∀ j, (j = 7 ∨ j = 8 ∨ j = 10) → ¬ (55 = k ∧ j = i) := by
      rintro j hj ⟨rfl, rfl⟩
      rcases hf.2 with h3 | h3
      · simp at h3
      · rcases hj with rfl | rfl | rfl <;> simp at h3
    rw [vg_me_eq (vg_u1_at (ne 7 (by omega))) (vg_u1_at (ne 8 (by omega))) (vg_u1_at (ne 10 (by omega)))]
    exact h.2
theorem Iv_0_2 {σ : vg_S} (h : Iv σ) : 0 ≤ (σ.1 0 2).toInt ∧ (σ.1 0 2).toInt ≤ 3 := h.at 0 rfl
theorem Iv_1_3 {σ : vg_S} (h : Iv σ) : 1 ≤ (σ.1 1 3).toInt ∧ (σ.1 1 3).toInt ≤ 1000 := h.at 1 rfl
theorem Iv_4_1 {σ : vg_S} (h : Iv σ) : 1 ≤ (σ.1 4 1).toInt ∧ (σ.1 4 1).toInt ≤ 4 := h.at 2 rfl
theorem Iv_4_2 {σ : vg_S} (h : Iv σ) : 1 ≤ (σ.1 4 2).toInt ∧ (σ.1 4 2).toInt ≤ 5000 := h.at 3 rfl
theorem Iv_4_3 {σ : vg_S} (h : Iv σ) : 2 ≤ (σ.1 4 3).toInt ∧ (σ.1 4 3).toInt ≤ 17 := h.at 4 rfl
theorem Iv_4_4 {σ : vg_S} (h : Iv σ) : 1 ≤ (σ.1 4 4).toInt ∧ (σ.1 4 4).toInt ≤ 60000 := h.at 5 rfl
theorem Iv_4_5 {σ : vg_S} (h : Iv σ) : 0 ≤ (σ.1 4 5).toInt ∧ (σ.1 4 5).toInt ≤ 1 := h.at 6 rfl
theorem Iv_4_6 {σ : vg_S} (h : Iv σ) : 0 ≤ (σ.1 4 6).toInt ∧ (σ.1 4 6).toInt ≤ 5000 := h.at 7 rfl
theorem Iv_23_1 {σ : vg_S} (h : Iv σ) : 1 ≤ (σ.1 23 1).toInt ∧ (σ.1 23 1).toInt ≤ 4 := h.at 8 rfl
theorem Iv_23_2 {σ : vg_S} (h : Iv σ) : 1 ≤ (σ.1 23 2).toInt ∧ (σ.1 23 2).toInt ≤ 5000 := h.at 9 rfl
theorem Iv_23_3 {σ : vg_S} (h : Iv σ) : 2 ≤ (σ.1 23 3).toInt ∧ (σ.1 23 3).toInt ≤ 17 := h.at 10 rfl
theorem Iv_23_4 {σ : vg_S} (h : Iv σ) : 1 ≤ (σ.1 23 4).toInt ∧ (σ.1 23 4).toInt ≤ 60000 := h.at 11 rfl
theorem Iv_23_5 {σ : vg_S} (h : Iv σ) : 0 ≤ (σ.1 23 5).toInt ∧ (σ.1 23 5).toInt ≤ 1 := h.at 12 rfl
theorem Iv_23_6 {σ : vg_S} (h : Iv σ) : 0 ≤ (σ.1 23 6).toInt ∧ (σ.1 23 6).toInt ≤ 5000 := h.at 13 rfl
theorem Iv_7_0 {σ : vg_S} (h : Iv σ) : 1 ≤ (σ.1 7 0).toInt ∧ (σ.1 7 0).toInt ≤ 16 := h.at 14 rfl
theorem Iv_26_0 {σ : vg_S} (h : Iv σ) : 1 ≤ (σ.1 26 0).toInt ∧ (σ.1 26 0).toInt ≤ 16 := h.at 15 rfl
theorem Iv_12_0 {σ : vg_S} (h : Iv σ) : 1 ≤ (σ.1 12 0).toInt ∧ (σ.1 12 0).toInt ≤ 5 := h.at 16 rfl
theorem Iv_12_1 {σ : vg_S} (h : Iv σ) : 1 ≤ (σ.1 12 1).toInt ∧ (σ.1 12 1).toInt ≤ 16 := h.at 17 rfl
theorem Iv_12_2 {σ : vg_S} (h : Iv σ) : 8 ≤ (σ.1 12 2).toInt ∧ (σ.1 12 2).toInt ≤ 32 := h.at 18 rfl
theorem Iv_20_1 {σ : vg_S} (h : Iv σ) : 0 ≤ (σ.1 20 1).toInt ∧ (σ.1 20 1).toInt ≤ 12 := h.at 19 rfl
theorem Iv_41_2 {σ : vg_S} (h : Iv σ) : 0 ≤ (σ.1 41 2).toInt ∧ (σ.1 41 2).toInt ≤ 48 := h.at 20 rfl
theorem Iv_43_2 {σ : vg_S} (h : Iv σ) : 0 ≤ (σ.1 43 2).toInt ∧ (σ.1 43 2).toInt ≤ 48 := h.at 21 rfl
theorem Iv_45_2 {σ : vg_S} (h : Iv σ) : 0 ≤ (σ.1 45 2).toInt ∧ (σ.1 45 2).toInt ≤ 48 := h.at 22 rfl
theorem Iv_47_2 {σ : vg_S} (h : Iv σ) : 0 ≤ (σ.1 47 2).toInt ∧ (σ.1 47 2).toInt ≤ 48 := h.at 23 rfl
theorem Iv_49_2 {σ : vg_S} (h : Iv σ) : 0 ≤ (σ.1 49 2).toInt ∧ (σ.1 49 2).toInt ≤ 48 := h.at 24 rfl
theorem Iv_51_2 {σ : vg_S} (h : Iv σ) : 0 ≤ (σ.1 51 2).toInt ∧ (σ.1 51 2).toInt ≤ 48 := h.at 25 rfl
theorem Iv_53_2 {σ : vg_S} (h : Iv σ) : 0 ≤ (σ.1 53 2).toInt ∧ (σ.1 53 2).toInt ≤ 48 := h.at 26 rfl
theorem Iv_55_6 {σ : vg_S} (h : Iv σ) : 1 ≤ (σ.1 55 6).toInt ∧ (σ.1 55 6).toInt ≤ 1000 := h.at 27 rfl
theorem Iv_55_8 {σ : vg_S} (h : Iv σ) : 1 ≤ (σ.1 55 8).toInt ∧ (σ.1 55 8).toInt ≤ 4 := h.at 28 rfl
theorem Iv_55_10 {σ : vg_S} (h : Iv σ) : 2 ≤ (σ.1 55 10).toInt ∧ (σ.1 55 10).toInt ≤ 17 := h.at 29 rfl
theorem Iv_55_12 {σ : vg_S} (h : Iv σ) : 0 ≤ (σ.1 55 12).toInt ∧ (σ.1 55 12).toInt ≤ 5000 := h.at 30 rfl
theorem Iv_55_16 {σ : vg_S} (h : Iv σ) : 1 ≤ (σ.1 55 16).toInt ∧ (σ.1 55 16).toInt ≤ 5 := h.at 31 rfl
theorem Iv_55_17 {σ : vg_S} (h : Iv σ) : 1 ≤ (σ.1 55 17).toInt ∧ (σ.1 55 17).toInt ≤ 16 := h.at 32 rfl
theorem Iv_55_20 {σ : vg_S} (h : Iv σ) : 0 ≤ (σ.1 55 20).toInt ∧ (σ.1 55 20).toInt ≤ 3 := h.at 33 rfl
theorem Iv_55_33 {σ : vg_S} (h : Iv σ) : 0 ≤ (σ.1 55 33).toInt ∧ (σ.1 55 33).toInt ≤ 12 := h.at 34 rfl
/-- ints that most calls keep -/
def vg_kp (k i : Nat) : Bool := match k with
  | 0 => Nat.beq i 1 || Nat.beq i 2
  | 4 => Nat.beq i 0 || Nat.beq i 1 || Nat.beq i 2 || Nat.beq i 3 || Nat.beq i 4 || Nat.beq i 5 || Nat.beq i 6 || Nat.beq i 7
  | 7 => Nat.beq i 0 || Nat.beq i 1
  | 8 => true
  | 12 => Nat.beq i 0 || Nat.beq i 1 || Nat.beq i 2 || Nat.beq i 3
  | 16 => Nat.beq i 1
  | 17 => true
  | 20 => Nat.beq i 1
  | 21 => true
  | 31 => Nat.beq i 3 || Nat.beq i 4 || Nat.beq i 5
  | 34 => true
  | 35 => Nat.beq i 0
  | 37 => Nat.beq i 0
  | 39 => Nat.beq i 0
  | 55 => Nat.beq i 7 || Nat.beq i 8 || Nat.beq i 9 || Nat.beq i 10 || Nat.beq i 12 || Nat.beq i 13 || Nat.beq i 14 || Nat.beq i 15 || Nat.beq i 16 || Nat.beq i 17 || Nat.beq i 18 || Nat.beq i 19 || Nat.beq i 20 || Nat.beq i 21 || Nat.beq i 30 || Nat.beq i 31 || Nat.beq i 33
  | 59 => true
  | 60 => true
  | 61 => true
  | 66 => true
  | _ => false
/-- longs that most calls keep: the reference's clock, and it in the copies -/
def vg_kq (k i : Nat) : Bool := (Nat.beq k 56 && Nat.beq i 0) || (Nat.beq k 57 || Nat.beq k 67)
def vg_q1 (k i : Nat) : Bool := Nat.beq k 56 && Nat.beq i 0
def vg_q2 (k _ : Nat) : Bool := Nat.beq k 57 || Nat.beq k 67
def vg_kr (k i : Nat) : Bool := (!(Nat.beq k 34) && !(Nat.beq k 31)) && vg_kp k i
def vg_kc (k i : Nat) : Bool := !(Nat.beq k 34) && vg_kp k i
def vg_ka (k i : Nat) : Bool := (!(Nat.beq k 20) && !(Nat.beq k 21)) && vg_kp k i
def vg_k0 (_ _ : Nat) : Bool := false
def Kx (P Q : Nat → Nat → Bool) (σ σ' : vg_S) : Prop := (∀ k i, P k i = true → σ'.1 k i = σ.1 k i) ∧ ∀ k i, Q k i = true → σ'.2 k i = σ.2 k i
abbrev Kp : vg_S → vg_S → Prop := Kx vg_kp vg_kq
abbrev Kr : vg_S → vg_S → Prop := Kx vg_kr vg_kq
abbrev Kc : vg_S → vg_S → Prop := Kx vg_kc vg_kq
abbrev Ka : vg_S → vg_S → Prop := Kx vg_ka vg_kq
abbrev Ks : vg_S → vg_S → Prop := Kx vg_k0 vg_kq
def vg_kt (k i : Nat) : Bool := !(Nat.beq k 55 && (Nat.beq i 30 || Nat.beq i 31)) && vg_kp k i
abbrev Kt : vg_S → vg_S → Prop := Kx vg_kt vg_q1
abbrev Kn : vg_S → vg_S → Prop := Kx vg_kt vg_k0
abbrev Ku : vg_S → vg_S → Prop := Kx vg_k0 vg_q1
abbrev Kg : vg_S → vg_S → Prop := Kx vg_kp vg_q2
theorem Kx.rf {P Q : Nat → Nat → Bool} {σ : vg_S} : Kx P Q σ σ := ⟨fun _ _ _ => rfl, fun _ _ _ => rfl⟩
theorem Kx.tr {P Q : Nat → Nat → Bool} {σ σ' σ'' : vg_S} (h : Kx P Q σ σ') (h2 : Kx P Q σ' σ'') : Kx P Q σ σ'' := ⟨fun k i hk => (h2.1 k i hk).trans (h.1 k i hk), fun k i hk => (h2.2 k i hk).trans (h.2 k i hk)⟩
theorem Kx.u1 {P Q : Nat → Nat → Bool} {σ σ' σ'' : vg_S} {k i : Nat} {x : Int32} (h : Kx P Q σ σ') (e : σ'' = vg_u1 σ' k i x) (hk : P k i = false) : Kx P Q σ σ'' := by
  subst e
  refine ⟨fun a b hab => ?_, h.2⟩
  rw [vg_u1_at (by rintro ⟨rfl, rfl⟩; rw [hab] at hk; cases hk)]
  exact h.1 a b hab
theorem Kx.w1 {P Q : Nat → Nat → Bool} {σ σ' σ'' : vg_S} {k : Nat} {f : Nat → Int32} (h : Kx P Q σ σ') (e : σ'' = vg_w1 σ' k f) (hk : ∀ i, P k i = false) : Kx P Q σ σ'' := by
  subst e
  refine ⟨fun a b hab => ?_, h.2⟩
  simp only [vg_w1]
  rw [if_neg (by rintro rfl; rw [hk] at hab; cases hab)]
  exact h.1 a b hab
theorem Kx.u2 {P Q : Nat → Nat → Bool} {σ σ' σ'' : vg_S} {k i : Nat} {x : Int64} (h : Kx P Q σ σ') (e : σ'' = vg_u2 σ' k i x) (hk : Q k i = false) : Kx P Q σ σ'' := by
  subst e
  refine ⟨h.1, fun a b hab => ?_⟩
  rw [vg_u2_at (by rintro ⟨rfl, rfl⟩; rw [hab] at hk; cases hk)]
  exact h.2 a b hab
theorem Kx.wk {P Q P' Q' : Nat → Nat → Bool} {σ σ' : vg_S} (h : Kx P Q σ σ') (hP : ∀ k i, P' k i = true → P k i = true) (hQ : ∀ k i, Q' k i = true → Q k i = true) : Kx P' Q' σ σ' := ⟨fun k i hk => h.1 k i (hP k i hk), fun k i hk => h.2 k i (hQ k i hk)⟩
theorem vg_kr_kp (k i : Nat) (h : vg_kr k i = true) : vg_kp k i = true := by
  simp only [vg_kr, Bool.and_eq_true] at h
  exact h.2
theorem vg_q1_kq (k i : Nat) (h : vg_q1 k i = true) : vg_kq k i = true := by
  simp only [vg_q1, vg_kq, Bool.and_eq_true, Bool.or_eq_true] at h ⊢
  exact Or.inl h
theorem vg_q2_kq (k i : Nat) (h : vg_q2 k i = true) : vg_kq k i = true := by
  simp only [vg_q2, vg_kq, Bool.and_eq_true, Bool.or_eq_true] at h ⊢
  exact Or.inr h
theorem vg_kr_kc (k i : Nat) (h : vg_kr k i = true) : vg_kc k i = true := by
  simp only [vg_kr, vg_kc, Bool.and_eq_true] at h ⊢
  exact ⟨h.1.1, h.2⟩
theorem vg_kc_kp (k i : Nat) (h : vg_kc k i = true) : vg_kp k i = true := by
  simp only [vg_kc, Bool.and_eq_true] at h
  exact h.2
theorem vg_ka_kp (k i : Nat) (h : vg_ka k i = true) : vg_kp k i = true := by
  simp only [vg_ka, Bool.and_eq_true] at h
  exact h.2
theorem vg_kt_kp (k i : Nat) (h : vg_kt k i = true) : vg_kp k i = true := by
  simp only [vg_kt, Bool.and_eq_true] at h
  exact h.2
theorem Kx.pk {Q : Nat → Nat → Bool} {σ σ' : vg_S} (h : Kx vg_kp Q σ σ') : Kx vg_kt Q σ σ' := h.wk vg_kt_kp (fun _ _ q => q)
theorem Kx.qn {P Q : Nat → Nat → Bool} {σ σ' : vg_S} (h : Kx P Q σ σ') : Kx P vg_k0 σ σ' := h.wk (fun _ _ q => q) (fun _ _ q => by cases q)
theorem Kx.cr {Q : Nat → Nat → Bool} {σ σ' : vg_S} (h : Kx vg_kc Q σ σ') : Kx vg_kr Q σ σ' := h.wk vg_kr_kc (fun _ _ q => q)
theorem Kx.pc {Q : Nat → Nat → Bool} {σ σ' : vg_S} (h : Kx vg_kp Q σ σ') : Kx vg_kc Q σ σ' := h.wk vg_kc_kp (fun _ _ q => q)
theorem Kx.pa {Q : Nat → Nat → Bool} {σ σ' : vg_S} (h : Kx vg_kp Q σ σ') : Kx vg_ka Q σ σ' := h.wk vg_ka_kp (fun _ _ q => q)
theorem Kx.pr {σ σ' : vg_S} (h : Kp σ σ') : Kr σ σ' := h.wk vg_kr_kp (fun _ _ q => q)
theorem Kx.ps {Q : Nat → Nat → Bool} {P : Nat → Nat → Bool} {σ σ' : vg_S} (h : Kx P Q σ σ') : Kx vg_k0 Q σ σ' := h.wk (fun _ _ q => by cases q) (fun _ _ q => q)
theorem Kx.pt {P : Nat → Nat → Bool} {σ σ' : vg_S} (h : Kx P vg_kq σ σ') : Kx P vg_q1 σ σ' := h.wk (fun _ _ q => q) vg_q1_kq
theorem Kx.pg {P : Nat → Nat → Bool} {σ σ' : vg_S} (h : Kx P vg_kq σ σ') : Kx P vg_q2 σ σ' := h.wk (fun _ _ q => q) vg_q2_kq
theorem vg_kq_pos {x : Int32} (h : 0 < x.toInt) : vg_kq 56 x.toNatClampNeg = false ∧ vg_q1 56 x.toNatClampNeg = false ∧ vg_q2 56 x.toNatClampNeg = false := by
  have : x.toNatClampNeg = x.toInt.toNat := rfl
  have hb := vg_beq (a := x.toNatClampNeg) (b := 0) (by omega)
  refine ⟨?_, ?_, rfl⟩
  · simp only [vg_kq, hb, Bool.and_false]
    rfl
  · simp only [vg_q1, hb, Bool.and_false]
theorem vg_kq_no {k i : Nat} (h : Nat.beq k 56 = false ∧ Nat.beq k 57 = false ∧ Nat.beq k 67 = false) : vg_kq k i = false ∧ vg_q1 k i = false ∧ vg_q2 k i = false := by
  refine ⟨?_, ?_, ?_⟩
  · simp [vg_kq, h.1, h.2.1, h.2.2]
  · simp [vg_q1, h.1]
  · simp [vg_q2, h.2.1, h.2.2]
theorem vg_shl1 {x y v : Int32} (e : v = x <<< (y &&& 31)) (hx : x.toInt = 1) (h1 : 1 ≤ y.toInt) (h2 : y.toInt ≤ 4) : 2 ≤ v.toInt ∧ v.toInt ≤ 16 ∧ ((y.toInt = 1 ∧ v.toInt = 2) ∨ (y.toInt = 2 ∧ v.toInt = 4) ∨ (y.toInt = 3 ∧ v.toInt = 8) ∨ (y.toInt = 4 ∧ v.toInt = 16)) := by
  have hx1 : x = 1 := vg_eqi (by rw [hx]; rfl)
  subst hx1
  rcases (show y.toInt = 1 ∨ y.toInt = 2 ∨ y.toInt = 3 ∨ y.toInt = 4 by omega) with h | h | h | h
  · have : y = 1 := vg_eqi (by rw [h]; rfl)
    subst this
    subst e
    decide
  · have : y = 2 := vg_eqi (by rw [h]; rfl)
    subst this
    subst e
    decide
  · have : y = 3 := vg_eqi (by rw [h]; rfl)
    subst this
    subst e
    decide
  · have : y = 4 := vg_eqi (by rw [h]; rfl)
    subst this
    subst e
    decide
theorem vg_mulr {x y v : Int32} (e : v = x * y) (h1 : 1 ≤ x.toInt) (h2 : x.toInt ≤ 16) (h3 : 1 ≤ y.toInt) (h4 : y.toInt ≤ 15) : v.toInt = x.toInt * y.toInt ∧ 1 ≤ v.toInt ∧ v.toInt ≤ 240 := by
  have a1 : 1 * 1 ≤ x.toInt * y.toInt := Int.mul_le_mul h1 h3 (by omega) (by omega)
  have a2 : x.toInt * y.toInt ≤ 16 * 15 := Int.mul_le_mul h2 h4 (by omega) (by omega)
  have := vg_mul e (by omega) (by omega)
  omega
theorem vg_xor_sign {x y v : Int32} (e : v = x ^^^ y) (hy : 0 ≤ y.toInt) : 0 ≤ v.toInt ↔ 0 ≤ x.toInt := by
  subst e
  have key : ∀ z : Int32, 0 ≤ z.toInt ↔ z.toBitVec.msb = false := by
    intro z
    show 0 ≤ z.toBitVec.toInt ↔ _
    rw [BitVec.toInt_eq_msb_cond]
    have := z.toBitVec.isLt
    cases hm : z.toBitVec.msb
    · simp
    · simp
      omega
  rw [key, key]
  rw [key] at hy
  show (x.toBitVec ^^^ y.toBitVec).msb = false ↔ _
  rw [BitVec.msb_xor, hy]
  simp
theorem vg_remn {x y v : Int32} (e : v = x - x / y * y) (hx : x.toInt < 0) (hy : 0 < y.toInt) : - y.toInt < v.toInt ∧ v.toInt ≤ 0 := by
  have h2 := vg_rng x
  have h2y := vg_rng y
  have hd : (x / y).toInt = x.toInt.tdiv y.toInt := by
    rw [Int32.toInt_div]
    have hq : x.toInt.tdiv y.toInt = - ((- x.toInt) / y.toInt) := by
      rw [← Int.tdiv_eq_ediv_of_nonneg (by omega), Int.neg_tdiv, Int.neg_neg]
    rw [hq]
    have h3 : (- x.toInt) / y.toInt ≤ - x.toInt := Int.ediv_le_self _ (by omega)
    have h4 : 0 ≤ (- x.toInt) / y.toInt := Int.ediv_nonneg (by omega) (by omega)
    generalize (- x.toInt) / y.toInt = z at h3 h4
    simp only [Int.bmod]
    omega
  have hq : x.toInt.tdiv y.toInt = - ((- x.toInt) / y.toInt) := by
    rw [← Int.tdiv_eq_ediv_of_nonneg (by omega), Int.neg_tdiv, Int.neg_neg]
  have hem := Int.emod_add_mul_ediv (- x.toInt) y.toInt
  have hm0 := Int.emod_nonneg (- x.toInt) (by omega : y.toInt ≠ 0)
  have hm1 := Int.emod_lt_of_pos (- x.toInt) hy
  have h5 : 0 ≤ (- x.toInt) / y.toInt := Int.ediv_nonneg (by omega) (by omega)
  have hp : 0 ≤ y.toInt * ((- x.toInt) / y.toInt) := Int.mul_nonneg (by omega) h5
  have hmm : (x / y).toInt * y.toInt = - (y.toInt * ((- x.toInt) / y.toInt)) := by rw [hd, hq, Int.neg_mul, Int.mul_comm]
  have hm := vg_mul (x := x / y) (y := y) (v := x / y * y) rfl (by rw [hmm]; omega) (by rw [hmm]; omega)
  rw [hmm] at hm
  have hs := vg_sub (x := x) (y := x / y * y) (v := v) e (by rw [hm]; omega) (by rw [hm]; omega)
  rw [hs, hm]
  omega
theorem vg_remx {x y v : Int32} (e : v = x - x / y * y) (hy : 0 < y.toInt) : (0 ≤ x.toInt ∧ 0 ≤ v.toInt ∧ v.toInt < y.toInt) ∨ (x.toInt < 0 ∧ - y.toInt < v.toInt ∧ v.toInt ≤ 0) := by
  by_cases hx : 0 ≤ x.toInt
  · exact Or.inl ⟨hx, (vg_rem e hx hy).2⟩
  · exact Or.inr ⟨by omega, vg_remn e (by omega) hy⟩
theorem vg_fst {σ : vg_S} {k : Nat} {i v c : Int32} (h : ∀ j : Nat, (j : Int) < i.toInt → σ.1 k j = c) (hi : 0 ≤ i.toInt) (e : v.toInt = i.toInt + 1) {j : Nat} (hj : (j : Int) < v.toInt) : (vg_u1 σ k i.toNatClampNeg c).1 k j = c := by
  have h9 : i.toNatClampNeg = i.toInt.toNat := rfl
  by_cases hji : j = i.toNatClampNeg
  · subst hji
    exact vg_u1_self
  · rw [vg_u1_at (fun q => hji q.2)]
    exact h j (by omega)
theorem vg_cells1 {σ : vg_S} {k i : Nat} {x : Int32} {B : Int} (h : ∀ j : Nat, j < 2048 → 0 ≤ (σ.1 k j).toInt ∧ (σ.1 k j).toInt ≤ B) (hx : 0 ≤ x.toInt ∧ x.toInt ≤ B + 1) (j : Nat) (hj : j < 2048) : 0 ≤ ((vg_u1 σ k i x).1 k j).toInt ∧ ((vg_u1 σ k i x).1 k j).toInt ≤ B + 1 := by
  by_cases hji : j = i
  · subst hji
    rw [vg_u1_self]
    exact hx
  · rw [vg_u1_at (fun q => hji q.2)]
    have := h j hj
    omega
theorem vg_inGW {i : Nat} {w : Cond} (h : vg_nth lw_tbl i = some w) (hg : goodWord w = true) : w ∈ vg_GW := by
  rw [vg_nth_eq] at h
  exact List.mem_filter.mpr ⟨List.mem_of_getElem? h, hg⟩
/-- of the claim's own room: a method's places hold -/
abbrev vg_Hp (G : vg_G) : Prop := ∀ i j, i < vg_sh.length → j < vg_sh.length → G.2.2 i = G.2.2 j → i = j
/-- a slot that a call may set -/
def vg_hit : Nat × Option Nat → Nat → Nat → Bool
  | (a, none), k, _ => Nat.beq k a
  | (a, some j), k, i => Nat.beq k a && Nat.beq i j
def vg_px (ex : List (Nat × Option Nat)) (k i : Nat) : Bool := !(ex.any (fun e => vg_hit e k i)) && vg_kp k i
theorem Kx.px {ex : List (Nat × Option Nat)} {Q : Nat → Nat → Bool} {σ σ' : vg_S} (h : Kx vg_kp Q σ σ') : Kx (vg_px ex) Q σ σ' := h.wk (fun k i hk => by simp only [vg_px, Bool.and_eq_true] at hk; exact hk.2) (fun _ _ q => q)
theorem Kx.xx {ex ex' : List (Nat × Option Nat)} {Q : Nat → Nat → Bool} {σ σ' : vg_S} (h : Kx (vg_px ex) Q σ σ') (hs : ∀ e ∈ ex, e ∈ ex') : Kx (vg_px ex') Q σ σ' := h.wk (fun k i hk => by
  simp only [vg_px, Bool.and_eq_true, Bool.not_eq_true', List.any_eq_false] at hk ⊢
  exact ⟨fun e he => hk.1 e (hs e he), hk.2⟩) (fun _ _ q => q)
def vg_e_X0_forget : List (Nat × Option Nat) := [(20, some 1)]
abbrev K_X0_forget : vg_S → vg_S → Prop := Kx (vg_px vg_e_X0_forget) vg_kq
def vg_e_X0_add : List (Nat × Option Nat) := [(20, some 1), (21, none)]
abbrev K_X0_add : vg_S → vg_S → Prop := Kx (vg_px vg_e_X0_add) vg_kq
def vg_e_X10_loop : List (Nat × Option Nat) := [(4, some 0), (4, some 1), (4, some 2), (4, some 3), (4, some 4), (4, some 5), (7, some 0), (20, some 1)]
abbrev K_X10_loop : vg_S → vg_S → Prop := Kx (vg_px vg_e_X10_loop) vg_kq
def vg_e_X10_dither : List (Nat × Option Nat) := [(4, some 6), (4, some 7)]
abbrev K_X10_dither : vg_S → vg_S → Prop := Kx (vg_px vg_e_X10_dither) vg_kq
def vg_e_X10_way : List (Nat × Option Nat) := [(7, some 1)]
abbrev K_X10_way : vg_S → vg_S → Prop := Kx (vg_px vg_e_X10_way) vg_kq
def vg_e_X10_deviation : List (Nat × Option Nat) := [(8, none)]
abbrev K_X10_deviation : vg_S → vg_S → Prop := Kx (vg_px vg_e_X10_deviation) vg_kq
def vg_e_X10_comb : List (Nat × Option Nat) := [(12, some 0), (12, some 1), (12, some 2), (12, some 3)]
abbrev K_X10_comb : vg_S → vg_S → Prop := Kx (vg_px vg_e_X10_comb) vg_kq
def vg_e_X10_taps : List (Nat × Option Nat) := [(17, none), (16, some 1)]
abbrev K_X10_taps : vg_S → vg_S → Prop := Kx (vg_px vg_e_X10_taps) vg_kq
def vg_e_X10_folds : List (Nat × Option Nat) := [(0, some 2), (35, some 0), (37, some 0), (39, some 0)]
abbrev K_X10_folds : vg_S → vg_S → Prop := Kx (vg_px vg_e_X10_folds) vg_kq
def vg_e_X10_clocks : List (Nat × Option Nat) := [(0, some 1)]
abbrev K_X10_clocks : vg_S → vg_S → Prop := Kx (vg_px vg_e_X10_clocks) vg_kq
def vg_e_X10_tone : List (Nat × Option Nat) := [(20, some 1), (21, none), (31, none), (34, none)]
abbrev K_X10_tone : vg_S → vg_S → Prop := Kx (vg_px vg_e_X10_tone) vg_kq
def vg_e_X11_loop : List (Nat × Option Nat) := [(55, some 7), (55, some 8), (55, some 9), (55, some 10), (55, some 14), (55, some 33)]
abbrev K_X11_loop : vg_S → vg_S → Prop := Kx (vg_px vg_e_X11_loop) vg_kq
def vg_e_X11_dither : List (Nat × Option Nat) := [(55, some 12), (55, some 13)]
abbrev K_X11_dither : vg_S → vg_S → Prop := Kx (vg_px vg_e_X11_dither) vg_kq
def vg_e_X11_way : List (Nat × Option Nat) := [(55, some 15)]
abbrev K_X11_way : vg_S → vg_S → Prop := Kx (vg_px vg_e_X11_way) vg_kq
def vg_e_X11_deviation : List (Nat × Option Nat) := [(59, none)]
abbrev K_X11_deviation : vg_S → vg_S → Prop := Kx (vg_px vg_e_X11_deviation) vg_kq
def vg_e_X11_comb : List (Nat × Option Nat) := [(55, some 16), (55, some 17), (55, some 18), (55, some 19)]
abbrev K_X11_comb : vg_S → vg_S → Prop := Kx (vg_px vg_e_X11_comb) vg_kq
def vg_e_X11_taps : List (Nat × Option Nat) := [(61, none), (55, some 21)]
abbrev K_X11_taps : vg_S → vg_S → Prop := Kx (vg_px vg_e_X11_taps) vg_kq
def vg_e_X11_folds_ : List (Nat × Option Nat) := [(55, some 20), (60, none)]
abbrev K_X11_folds_ : vg_S → vg_S → Prop := Kx (vg_px vg_e_X11_folds_) vg_kq
def vg_e_X11_asks : List (Nat × Option Nat) := [(66, none), (55, some 33)]
abbrev K_X11_asks : vg_S → vg_S → Prop := Kx (vg_px vg_e_X11_asks) vg_kq
def vg_e_X11_tone : List (Nat × Option Nat) := [(66, none), (55, some 33), (55, some 30), (55, some 31)]
abbrev K_X11_tone : vg_S → vg_S → Prop := Kx (vg_px vg_e_X11_tone) vg_q1
def vg_e_X11_ahead : List (Nat × Option Nat) := [(55, some 15), (55, some 30), (55, some 31)]
abbrev K_X11_ahead : vg_S → vg_S → Prop := Kx (vg_px vg_e_X11_ahead) vg_q1
def vg_e_X11_aheadm : List (Nat × Option Nat) := [(55, some 15), (55, some 30), (55, some 31)]
abbrev K_X11_aheadm : vg_S → vg_S → Prop := Kx (vg_px vg_e_X11_aheadm) vg_k0
theorem Kx.rx {Q : Nat → Nat → Bool} {σ σ' : vg_S} (h : Kx vg_kr Q σ σ') : Kx (vg_px vg_e_X10_tone) Q σ σ' := h.wk (fun k i hk => by
  simp only [vg_px, vg_e_X10_tone, List.any_cons, List.any_nil, vg_hit, vg_kr, Bool.and_eq_true, Bool.not_eq_true', Bool.or_eq_false_iff] at hk ⊢
  exact ⟨⟨hk.1.2.2.2.1, hk.1.2.2.1⟩, hk.2⟩) (fun _ _ q => q)
theorem Kx.tx {Q : Nat → Nat → Bool} {σ σ' : vg_S} (h : Kx vg_kt Q σ σ') : Kx (vg_px vg_e_X11_tone) Q σ σ' := h.wk (fun k i hk => by
  simp only [vg_px, vg_e_X11_tone, List.any_cons, List.any_nil, vg_hit, vg_kt, Bool.and_eq_true, Bool.not_eq_true', Bool.or_eq_false_iff, Bool.and_eq_false_iff] at hk ⊢
  refine ⟨?_, hk.2⟩
  rcases hk.1.2.2.1 with h1 | h1
  · exact Or.inl h1
  · rcases hk.1.2.2.2.1 with h2 | h2
    · exact Or.inl h2
    · exact Or.inr ⟨h1, h2⟩) (fun _ _ q => q)
end
section
/-! more of numbers -/
theorem vg_mulL {x y v : Int32} {c : Int} (e : v = x * y) (hc : x.toInt = c) (h1 : -2147483648 ≤ c * y.toInt) (h2 : c * y.toInt ≤ 2147483647) : v.toInt = c * y.toInt := by
  subst hc
  exact vg_mul e h1 h2
theorem vg_mulR {x y v : Int32} {c : Int} (e : v = x * y) (hc : y.toInt = c) (h1 : -2147483648 ≤ x.toInt * c) (h2 : x.toInt * c ≤ 2147483647) : v.toInt = x.toInt * c := by
  subst hc
  exact vg_mul e h1 h2
/-- how many elements a loop has -/
def vg_eo (k o n : Int32) : Int32 := if k.toInt = 2 then (n - Int32.ofInt 1) * ((Int32.ofInt 1 <<< (o &&& (31 : Int32))) - Int32.ofInt 1) else n - Int32.ofInt 1
abbrev vg_af (a : Int32) : Int32 := Int32.ofInt 1 <<< (a &&& (31 : Int32))
/-! sums of rows -/
def vg_rs (f : Nat → Int32) : Nat → Int32
  | 0 => Int32.ofInt 0
  | n + 1 => vg_rs f n + f n
def vg_rw (σ : vg_S) (k : Nat) : Nat → Int32 := match k with
  | 100 => fun j => ([1, 2, 1] : List Int32).getD j 0
  | 101 => fun j => ([-1, 0, 9, 16, 9, 0, -1] : List Int32).getD j 0
  | 102 => fun j => ([3, 0, -25, 0, 150, 256, 150, 0, -25, 0, 3] : List Int32).getD j 0
  | k => σ.1 k
theorem vg_rs_step {f : Nat → Int32} {s t i j v : Int32} (h : s = vg_rs f i.toNatClampNeg) (hv : v = f i.toNatClampNeg) (ht : t = s + v) (hi : 0 ≤ i.toInt) (hj : j.toInt = i.toInt + 1) : t = vg_rs f j.toNatClampNeg := by
  have h1 : i.toNatClampNeg = i.toInt.toNat := rfl
  have h2 : j.toNatClampNeg = j.toInt.toNat := rfl
  have h3 : j.toNatClampNeg = i.toNatClampNeg + 1 := by omega
  rw [h3, vg_rs, ht, h, hv]
theorem vg_rs_at {f : Nat → Int32} {v i : Int32} {n : Nat} (h : v = vg_rs f i.toNatClampNeg) (hi : i.toInt = (n : Int)) : v = vg_rs f n := by
  have h1 : i.toNatClampNeg = i.toInt.toNat := rfl
  rw [h, show i.toNatClampNeg = n by omega]
theorem vg_sum7 {f : Nat → Int32} {a b c d : Int32} (h : f 0 = a ∧ f 1 = b ∧ f 2 = c ∧ f 3 = d ∧ f 4 = c ∧ f 5 = b ∧ f 6 = a) (ha : -999 ≤ a.toInt ∧ a.toInt ≤ 999) (hb : -999 ≤ b.toInt ∧ b.toInt ≤ 999) (hc : -999 ≤ c.toInt ∧ c.toInt ≤ 999) (hd : -999 ≤ d.toInt ∧ d.toInt ≤ 999) : (vg_rs f 7).toInt = 2 * (a.toInt + b.toInt + c.toInt) + d.toInt := by
  obtain ⟨h0, h1, h2, h3, h4, h5, h6⟩ := h
  simp only [vg_rs, h0, h1, h2, h3, h4, h5, h6]
  have z0 : (Int32.ofInt 0).toInt = 0 := by decide
  obtain ⟨s1, e1⟩ : ∃ s, s = Int32.ofInt 0 + a := ⟨_, rfl⟩
  have b1 := vg_add e1 (by omega) (by omega)
  rw [← e1]
  obtain ⟨s2, e2⟩ : ∃ s, s = s1 + b := ⟨_, rfl⟩
  have b2 := vg_add e2 (by omega) (by omega)
  rw [← e2]
  obtain ⟨s3, e3⟩ : ∃ s, s = s2 + c := ⟨_, rfl⟩
  have b3 := vg_add e3 (by omega) (by omega)
  rw [← e3]
  obtain ⟨s4, e4⟩ : ∃ s, s = s3 + d := ⟨_, rfl⟩
  have b4 := vg_add e4 (by omega) (by omega)
  rw [← e4]
  obtain ⟨s5, e5⟩ : ∃ s, s = s4 + c := ⟨_, rfl⟩
  have b5 := vg_add e5 (by omega) (by omega)
  rw [← e5]
  obtain ⟨s6, e6⟩ : ∃ s, s = s5 + b := ⟨_, rfl⟩
  have b6 := vg_add e6 (by omega) (by omega)
  rw [← e6]
  obtain ⟨s7, e7⟩ : ∃ s, s = s6 + a := ⟨_, rfl⟩
  have b7 := vg_add e7 (by omega) (by omega)
  rw [← e7]
  omega
theorem vg_u1_if {σ : vg_S} {k i j : Nat} {x : Int32} : (vg_u1 σ k i x).1 k j = if j = i then x else σ.1 k j := by
  split
  · rename_i h
    subst h
    exact vg_u1_self
  · rename_i h
    exact vg_u1_at (fun q => h q.2)
/-- the row of told taps -/
theorem vg_tell7 {s0 s1 s2 s3 s4 s5 s6 s7 s8 : vg_S} {a b c d sh : Int32} (e1 : s1 = vg_u1 s0 17 (Int32.ofInt 0).toNatClampNeg a) (e2 : s2 = vg_u1 s1 17 (Int32.ofInt 1).toNatClampNeg b) (e3 : s3 = vg_u1 s2 17 (Int32.ofInt 2).toNatClampNeg c) (e4 : s4 = vg_u1 s3 17 (Int32.ofInt 3).toNatClampNeg d) (e5 : s5 = vg_u1 s4 17 (Int32.ofInt 4).toNatClampNeg c) (e6 : s6 = vg_u1 s5 17 (Int32.ofInt 5).toNatClampNeg b) (e7 : s7 = vg_u1 s6 17 (Int32.ofInt 6).toNatClampNeg a) (e8 : s8 = vg_u1 s7 16 1 sh) : s8.1 16 1 = sh ∧ s8.1 17 0 = a ∧ s8.1 17 1 = b ∧ s8.1 17 2 = c ∧ s8.1 17 3 = d ∧ s8.1 17 4 = c ∧ s8.1 17 5 = b ∧ s8.1 17 6 = a := by
  have n0 : (Int32.ofInt 0).toNatClampNeg = 0 := by decide
  have n1 : (Int32.ofInt 1).toNatClampNeg = 1 := by decide
  have n2 : (Int32.ofInt 2).toNatClampNeg = 2 := by decide
  have n3 : (Int32.ofInt 3).toNatClampNeg = 3 := by decide
  have n4 : (Int32.ofInt 4).toNatClampNeg = 4 := by decide
  have n5 : (Int32.ofInt 5).toNatClampNeg = 5 := by decide
  have n6 : (Int32.ofInt 6).toNatClampNeg = 6 := by decide
  rw [n0] at e1
  rw [n1] at e2
  rw [n2] at e3
  rw [n3] at e4
  rw [n4] at e5
  rw [n5] at e6
  rw [n6] at e7
  refine ⟨by rw [e8]; exact vg_u1_self, ?_⟩
  rw [e8, vg_u1_ne (show (17 : Nat) ≠ 16 by decide), e7]
  refine ⟨?_, ?_, ?_, ?_, ?_, ?_, vg_u1_self⟩ <;> rw [vg_u1_if, if_neg (by decide)]
  all_goals rw [e6, vg_u1_if]
  all_goals first | (rw [if_pos rfl]; done) | rw [if_neg (by decide), e5, vg_u1_if]
  all_goals first | (rw [if_pos rfl]; done) | rw [if_neg (by decide), e4, vg_u1_if]
  all_goals first | (rw [if_pos rfl]; done) | rw [if_neg (by decide), e3, vg_u1_if]
  all_goals first | (rw [if_pos rfl]; done) | rw [if_neg (by decide), e2, vg_u1_if]
  all_goals first | (rw [if_pos rfl]; done) | rw [if_neg (by decide), e1, vg_u1_if]
  all_goals rw [if_pos rfl]
/-! how wide words must be -/
def vg_mp (r m : Int64) : Nat → Int64
  | 0 => m
  | n + 1 => vg_mp r m n * r
theorem vg_mp_step {r x i j : Int32} {m g g' x64 : Int64} (h : g = vg_mp r.toInt64 m i.toNatClampNeg) (hx : x = r) (h64 : x64 = x.toInt64) (hg : g' = g * x64) (hi : 0 ≤ i.toInt) (hj : j.toInt = i.toInt + 1) : g' = vg_mp r.toInt64 m j.toNatClampNeg := by
  have h1 : i.toNatClampNeg = i.toInt.toNat := rfl
  have h2 : j.toNatClampNeg = j.toInt.toNat := rfl
  rw [show j.toNatClampNeg = i.toNatClampNeg + 1 by omega, vg_mp, hg, h, h64, hx]
theorem vg_mp_at {r m g : Int64} {i n : Int32} (h : g = vg_mp r m i.toNatClampNeg) (hi : i.toInt = n.toInt) : g = vg_mp r m n.toNatClampNeg := by
  rw [h, vg_eqi hi]
def vg_tst (g : Int64) (b : Int32) : Int32 := lg_cmp g (Int64.ofNat 1 <<< ((b - Int32.ofInt 1).toInt64 &&& 63))
def vg_ge8 (g : Int64) (b : Int32) : Prop := ∀ w : Int32, 8 ≤ w.toInt → w.toInt < b.toInt → 0 ≤ (vg_tst g w).toInt
theorem vg_ge8_0 {g : Int64} : vg_ge8 g (Int32.ofInt 8) := fun w h1 h2 => by
  have h3 : (Int32.ofInt 8).toInt = 8 := by decide
  omega
theorem vg_ge8_step {g y : Int64} {b x v b' : Int32} (h : vg_ge8 g b) (e1 : x = b - Int32.ofInt 1) (e2 : y = Int64.ofNat 1 <<< (x.toInt64 &&& 63)) (e3 : v = lg_cmp g y) (hc : 0 ≤ v.toInt) (hb : b'.toInt = b.toInt + 1) : vg_ge8 g b' := fun w h1 h2 => by
  by_cases hw : w.toInt = b.toInt
  · rw [vg_eqi hw, vg_tst, ← e1, ← e2, ← e3]
    exact hc
  · exact h w h1 (by omega)
def vg_isneed (g : Int64) (v : Int32) : Prop := (8 ≤ v.toInt ∧ v.toInt ≤ 32 ∧ (vg_tst g v).toInt < 0 ∧ vg_ge8 g v) ∨ (v.toInt = -1 ∧ vg_ge8 g (Int32.ofInt 33))
theorem vg_isneed1 {g g' y : Int64} {b x v : Int32} (hg : g = g') (h : vg_ge8 g b) (e1 : x = b - Int32.ofInt 1) (e2 : y = Int64.ofNat 1 <<< (x.toInt64 &&& 63)) (e3 : v = lg_cmp g y) (hc : ¬ (0 ≤ v.toInt)) (h1 : 8 ≤ b.toInt) (h2 : b.toInt ≤ 32) : vg_isneed g' b := by
  subst hg
  refine Or.inl ⟨h1, h2, ?_, h⟩
  rw [vg_tst, ← e1, ← e2, ← e3]
  omega
theorem vg_isneed2 {g g' : Int64} {b v : Int32} (hg : g = g') (h : vg_ge8 g b) (hb : 33 ≤ b.toInt) (hv : v.toInt = -1) : vg_isneed g' v := by
  subst hg
  refine Or.inr ⟨hv, fun w h1 h2 => h w h1 ?_⟩
  have h3 : (Int32.ofInt 33).toInt = 33 := by decide
  omega
theorem vg_isneedm {g : Int64} {w v : Int32} (h : vg_isneed g w) (hw : w.toInt = -1) (hv : v.toInt = -1) : vg_isneed g v := by
  rw [show v = w from vg_eqi (by omega)]
  exact h
theorem vg_isneed_eq {g : Int64} {v w : Int32} (h : vg_isneed g v) (h' : vg_isneed g w) : v.toInt = w.toInt := by
  have h33 : (Int32.ofInt 33).toInt = 33 := by decide
  rcases h with ⟨a1, a2, a3, a4⟩ | ⟨a1, a2⟩
  · rcases h' with ⟨b1, b2, b3, b4⟩ | ⟨b1, b2⟩
    · rcases Int.lt_trichotomy v.toInt w.toInt with q | q | q
      · have := b4 v a1 q
        omega
      · exact q
      · have := a4 w b1 q
        omega
    · have := b2 v a1 (by omega)
      omega
  · rcases h' with ⟨b1, b2, b3, b4⟩ | ⟨b1, b2⟩
    · have := a2 w b1 (by omega)
      omega
    · omega
/-! weights -/
def vg_ws (f : Nat → Int32) : Nat → Int32
  | 0 => Int32.ofInt 0
  | n + 1 => vg_ws f n + (Int32.ofInt 1000 + f n)
theorem vg_ws_step {f : Nat → Int32} {s t i j v : Int32} (h : s = vg_ws f i.toNatClampNeg) (hv : v = Int32.ofInt 1000 + f i.toNatClampNeg) (ht : t = s + v) (hi : 0 ≤ i.toInt) (hj : j.toInt = i.toInt + 1) : t = vg_ws f j.toNatClampNeg := by
  have h1 : i.toNatClampNeg = i.toInt.toNat := rfl
  have h2 : j.toNatClampNeg = j.toInt.toNat := rfl
  have h3 : j.toNatClampNeg = i.toNatClampNeg + 1 := by omega
  rw [h3, vg_ws, ht, h, hv]
theorem vg_ws_at {f : Nat → Int32} {v i n : Int32} (h : v = vg_ws f i.toNatClampNeg) (hi : i.toInt = n.toInt) : v = vg_ws f n.toNatClampNeg := by
  rw [h, vg_eqi hi]
theorem vg_ws_congr {f g : Nat → Int32} : ∀ {n : Nat}, (∀ j, j < n → f j = g j) → vg_ws f n = vg_ws g n
  | 0, _ => rfl
  | n + 1, h => by
    rw [vg_ws, vg_ws, vg_ws_congr (n := n) (fun j hj => h j (by omega)), h n (by omega)]
theorem vg_nobit {a i v1 v2 : Int32} (e1 : v1 = a >>> (i &&& (31 : Int32))) (e2 : v2 = v1 &&& Int32.ofInt 1) (hc : ¬ v2.toInt = (Int32.ofInt 1).toInt) (h : ((a >>> (i &&& (31 : Int32))) &&& Int32.ofInt 1).toInt = (Int32.ofInt 1).toInt) : False := by
  subst e1
  subst e2
  exact hc h
theorem vg_ones_all : ∀ m : Fin 17, ∀ i : Fin 17, i.val < m.val → (((((Int32.ofInt 1 <<< ((Int32.ofInt (m.val : Int)) &&& (31 : Int32))) - Int32.ofInt 1) >>> ((Int32.ofInt (i.val : Int)) &&& (31 : Int32))) &&& Int32.ofInt 1).toInt = (Int32.ofInt 1).toInt) := by decide +kernel
theorem vg_of16 {m : Int32} (h1 : 0 ≤ m.toInt) (h2 : m.toInt ≤ 16) : ∃ n : Fin 17, m = Int32.ofInt (n.val : Int) ∧ m.toInt = (n.val : Int) := by
  refine ⟨⟨m.toInt.toNat, by omega⟩, ?_, ?_⟩
  · show m = Int32.ofInt (m.toInt.toNat : Int)
    rw [show (m.toInt.toNat : Int) = m.toInt by omega]
    exact (Int32.ofInt_toInt m).symm
  · show m.toInt = (m.toInt.toNat : Int)
    omega
theorem vg_ones {m i v1 v2 : Int32} (e1 : v1 = Int32.ofInt 1 <<< (m &&& (31 : Int32))) (e2 : v2 = v1 - Int32.ofInt 1) (h1 : 0 ≤ m.toInt) (h2 : m.toInt ≤ 16) (h3 : 0 ≤ i.toInt) (h4 : i.toInt < m.toInt) : ((v2 >>> (i &&& (31 : Int32))) &&& Int32.ofInt 1).toInt = (Int32.ofInt 1).toInt := by
  obtain ⟨a, ea, ea'⟩ := vg_of16 h1 h2
  obtain ⟨b, eb, eb'⟩ := vg_of16 h3 (by omega)
  rw [e2, e1, ea, eb]
  exact vg_ones_all a b (by omega)
/-- what a comb may be given at most -/
def vg_cx (i m : Int32) (f : Nat → Int32) : Int32 := if i.toInt = 0 then m else vg_ws f m.toNatClampNeg
theorem vg_cned {O R a1 a2 x y v : Int32} (q : vg_isneed (vg_mp R.toInt64 x.toInt64 O.toNatClampNeg) v) (hO : O = a1) (hR : R = a2) (hx : x = y) : vg_isneed (vg_mp a2.toInt64 y.toInt64 a1.toNatClampNeg) v := by
  subst hO
  subst hR
  subst hx
  exact q
/-! numbers that were asked -/
def vg_adk (c : Int) (f : Nat → Int32) (u : Int32) (c' : Int) (f' : Nat → Int32) : Prop :=
  ((∃ i : Nat, (i : Int) < c ∧ f i = u) ∧ c' = c ∧ ∀ j : Nat, (j : Int) < c → f' j = f j) ∨
  ((∀ i : Nat, (i : Int) < c → f i ≠ u) ∧ c < 12 ∧ c' = c + 1 ∧ (∀ j : Nat, (j : Int) < c → f' j = f j) ∧ f' c.toNat = u) ∨
  ((∀ i : Nat, (i : Int) < c → f i ≠ u) ∧ c = 12 ∧ c' = 12 ∧ (∀ j : Nat, j < 11 → f' j = f (j + 1)) ∧ f' 11 = u)
theorem vg_nf_step {f g : Nat → Int32} {u v i i' : Int32} (h : ∀ j : Nat, (j : Int) < i.toInt → f j ≠ u) (hv : v = g i.toNatClampNeg) (hg : g = f) (hc : ¬ v.toInt = u.toInt) (h0 : 0 ≤ i.toInt) (hi : i'.toInt = i.toInt + 1) : ∀ j : Nat, (j : Int) < i'.toInt → f j ≠ u := by
  intro j hj he
  by_cases hw : (j : Int) < i.toInt
  · exact h j hw he
  · have h9 : i.toNatClampNeg = i.toInt.toNat := rfl
    have h8 : j = i.toNatClampNeg := by omega
    apply hc
    rw [hv, hg, ← h8, he]
theorem vg_adk_in {c c' : Int} {f f' : Nat → Int32} {u v i : Int32} (hv : v = f' i.toNatClampNeg) (hf : f' = f) (hc : ¬ ¬ v.toInt = u.toInt) (h0 : 0 ≤ i.toInt) (hi : i.toInt < c) (hcc : c' = c) : vg_adk c f u c' f' := by
  refine Or.inl ⟨⟨i.toNatClampNeg, ?_, ?_⟩, hcc, fun j _ => by rw [hf]⟩
  · have h9 : i.toNatClampNeg = i.toInt.toNat := rfl
    omega
  · rw [← hf, ← hv]
    exact vg_eqi (Decidable.not_not.mp hc)
theorem vg_adk_out {K C S : Nat} (hKC : K ≠ C) {z s0 s1 s2 : vg_S} {m m2 u i : Int32} (e1 : s1 = vg_u1 s0 K m.toNatClampNeg u) (e2 : s2 = vg_u1 s1 C S m2) (hr : s0.1 K = z.1 K) (hn : ∀ j : Nat, (j : Int) < i.toInt → z.1 K j ≠ u) (h1 : (z.1 C S).toInt ≤ i.toInt) (h2 : m.toInt = (z.1 C S).toInt) (h3 : m2.toInt = (z.1 C S).toInt + 1) (h4 : 0 ≤ (z.1 C S).toInt ∧ (z.1 C S).toInt < 12) : vg_adk (z.1 C S).toInt (z.1 K) u (s2.1 C S).toInt (s2.1 K) := by
  have hm : m.toNatClampNeg = m.toInt.toNat := rfl
  refine Or.inr (Or.inl ⟨fun j hj => hn j (by omega), by omega, ?_, fun j hj => ?_, ?_⟩)
  · rw [e2, vg_u1_self]
    exact h3
  · rw [e2, vg_u1_ne hKC, e1, vg_u1_if, if_neg (by omega), hr]
  · rw [e2, vg_u1_ne hKC, e1, vg_u1_if, if_pos (by omega)]
theorem vg_w1_self {σ : vg_S} {k : Nat} {f : Nat → Int32} : (vg_w1 σ k f).1 k = f := by simp [vg_w1]
theorem vg_adk_full {z s0 s1 s2 s3 s4 : vg_S} {m m2 u i : Int32} (e1 : s1 = vg_w1 s0 21 (va_cpy (s0.1 21) (s0.1 21) (Int32.ofInt 1).toNatClampNeg (Int32.ofInt 0).toNatClampNeg (Int32.ofInt 11).toNatClampNeg)) (e2 : s2 = vg_u1 s1 20 1 m) (e3 : s3 = vg_u1 s2 21 m.toNatClampNeg u) (e4 : s4 = vg_u1 s3 20 1 m2) (hr : s0.1 21 = z.1 21) (hn : ∀ j : Nat, (j : Int) < i.toInt → z.1 21 j ≠ u) (h1 : (z.1 20 1).toInt ≤ i.toInt) (h2 : m.toInt = 11) (h3 : m2.toInt = 12) (h4 : (z.1 20 1).toInt = 12) : vg_adk (z.1 20 1).toInt (z.1 21) u (s4.1 20 1).toInt (s4.1 21) := by
  have hm : m.toNatClampNeg = m.toInt.toNat := rfl
  have n0 : (Int32.ofInt 0).toNatClampNeg = 0 := by decide
  have n1 : (Int32.ofInt 1).toNatClampNeg = 1 := by decide
  have n11 : (Int32.ofInt 11).toNatClampNeg = 11 := by decide
  have hKC : (21 : Nat) ≠ 20 := by decide
  rw [n0, n1, n11] at e1
  refine Or.inr (Or.inr ⟨fun j hj => hn j (by omega), h4, ?_, fun j hj => ?_, ?_⟩)
  · rw [e4, vg_u1_self]
    exact h3
  · rw [e4, vg_u1_ne hKC, e3, vg_u1_if, if_neg (by omega), e2, vg_u1_ne hKC, e1, vg_w1_self]
    simp only [va_cpy]
    rw [if_pos ⟨by omega, by omega⟩, hr, show 1 + (j - 0) = j + 1 by omega]
  · rw [e4, vg_u1_ne hKC, e3, vg_u1_if, if_pos (by omega)]
def vg_asx (z s : vg_S) (u i : Int32) : Prop := (s.1 55 33).toInt = 12 ∧ (z.1 55 33).toInt = 12 ∧ (∀ j : Nat, (j : Int) < 12 → z.1 66 j ≠ u) ∧ (∀ j : Nat, (j : Int) < i.toInt → s.1 66 j = if j + 1 = 12 then u else z.1 66 (j + 1)) ∧ (∀ j : Nat, i.toInt ≤ (j : Int) → s.1 66 j = if j = 12 then u else z.1 66 j)
theorem vg_asx0 {z s0 s1 s2 s3 : vg_S} {m m1 m2 u i : Int32} (e1 : s1 = vg_u1 s0 66 m.toNatClampNeg u) (e2 : s2 = vg_u1 s1 55 33 m1) (e3 : s3 = vg_u1 s2 55 33 m2) (hr : s0.1 66 = z.1 66) (hn : ∀ j : Nat, (j : Int) < i.toInt → z.1 66 j ≠ u) (h1 : (z.1 55 33).toInt ≤ i.toInt) (h2 : m.toInt = 12) (h3 : m2.toInt = 12) (h4 : (z.1 55 33).toInt = 12) : vg_asx z s3 u (Int32.ofInt 0) := by
  have hm : m.toNatClampNeg = m.toInt.toNat := rfl
  have z0 : (Int32.ofInt 0).toInt = 0 := by decide
  have hKC : (66 : Nat) ≠ 55 := by decide
  refine ⟨?_, h4, fun j hj => hn j (by omega), fun j hj => by omega, fun j hj => ?_⟩
  · rw [e3, vg_u1_self]
    exact h3
  · rw [e3, vg_u1_ne hKC, e2, vg_u1_ne hKC, e1, vg_u1_if, show m.toNatClampNeg = 12 by omega, hr]
theorem vg_asx1 {z s s' : vg_S} {u i k v i' : Int32} (x : vg_asx z s u i) (ea : v = s.1 66 k.toNatClampNeg) (e : s' = vg_u1 s 66 i.toNatClampNeg v) (h0 : 0 ≤ i.toInt ∧ i.toInt < 12) (hk : k.toInt = i.toInt + 1) (hi : i'.toInt = i.toInt + 1) : vg_asx z s' u i' := by
  have hm : i.toNatClampNeg = i.toInt.toNat := rfl
  have hm' : k.toNatClampNeg = k.toInt.toNat := rfl
  obtain ⟨x1, x2, x3, x4, x5⟩ := x
  refine ⟨by rw [e, vg_u1_ne (show (55 : Nat) ≠ 66 by decide)]; exact x1, x2, x3, fun j hj => ?_, fun j hj => ?_⟩
  · rw [e, vg_u1_if]
    by_cases hw : j = i.toNatClampNeg
    · rw [if_pos hw, ea, show k.toNatClampNeg = j + 1 by omega, x5 (j + 1) (by omega)]
    · rw [if_neg hw]
      exact x4 j (by omega)
  · rw [e, vg_u1_if, if_neg (by omega)]
    exact x5 j (by omega)
theorem vg_ask_full {z s : vg_S} {u i : Int32} (x : vg_asx z s u i) (hi : i.toInt = 12) : vg_adk (z.1 55 33).toInt (z.1 66) u (s.1 55 33).toInt (s.1 66) := by
  obtain ⟨x1, x2, x3, x4, x5⟩ := x
  refine Or.inr (Or.inr ⟨fun j hj => x3 j (by omega), x2, x1, fun j hj => by rw [x4 j (by omega), if_neg (by omega)], ?_⟩)
  rw [x4 11 (by omega), if_pos rfl]
theorem vg_adk_eq {c c1 c2 : Int} {f g f1 g2 : Nat → Int32} {u : Int32} (h1 : vg_adk c f u c1 f1) (h2 : vg_adk c g u c2 g2) (hfg : ∀ j : Nat, (j : Int) < c → f j = g j) : c1 = c2 ∧ ∀ j : Nat, (j : Int) < c1 → f1 j = g2 j := by
  rcases h1 with ⟨⟨i, hi, ei⟩, a2, a3⟩ | ⟨a1, a2, a3, a4, a5⟩ | ⟨a1, a2, a3, a4, a5⟩
  · rcases h2 with ⟨-, b2, b3⟩ | ⟨b1, -⟩ | ⟨b1, -⟩
    · exact ⟨by omega, fun j hj => by rw [a3 j (by omega), b3 j (by omega)]; exact hfg j (by omega)⟩
    · exact absurd ((hfg i hi).symm.trans ei) (b1 i hi)
    · exact absurd ((hfg i hi).symm.trans ei) (b1 i hi)
  · rcases h2 with ⟨⟨i, hi, ei⟩, -⟩ | ⟨b1, b2, b3, b4, b5⟩ | ⟨b1, b2, -⟩
    · exact absurd ((hfg i hi).trans ei) (a1 i hi)
    · refine ⟨by omega, fun j hj => ?_⟩
      by_cases hw : (j : Int) < c
      · rw [a4 j hw, b4 j hw]
        exact hfg j hw
      · rw [show j = c.toNat by omega, a5, b5]
    · omega
  · rcases h2 with ⟨⟨i, hi, ei⟩, -⟩ | ⟨b1, b2, -⟩ | ⟨b1, b2, b3, b4, b5⟩
    · exact absurd ((hfg i hi).trans ei) (a1 i hi)
    · omega
    · refine ⟨by omega, fun j hj => ?_⟩
      by_cases hw : j < 11
      · rw [a4 j hw, b4 j hw]
        exact hfg (j + 1) (by omega)
      · rw [show j = 11 by omega, a5, b5]
/-! taps -/
def vg_tn (a : Int32) : Nat := if a.toInt = 0 then 3 else if a.toInt = 2 then 11 else 7
theorem vg_tn_0 {a : Int32} (h : a.toInt = 0) : vg_tn a = 3 := by rw [vg_tn, if_pos h]
theorem vg_tn_2 {a : Int32} (h : a.toInt = 2) : vg_tn a = 11 := by rw [vg_tn, if_neg (by omega), if_pos h]
theorem vg_tn_x {a : Int32} (h : ¬ a.toInt = 0) (h' : ¬ a.toInt = 2) : vg_tn a = 7 := by rw [vg_tn, if_neg h, if_neg h']
def vg_rp (a : Int32) : Nat := if a.toInt = 0 then 100 else if a.toInt = 1 then 101 else if a.toInt = 2 then 102 else 17
theorem vg_rp_0 {a : Int32} (h : a.toInt = 0) : vg_rp a = 100 := by rw [vg_rp, if_pos h]
theorem vg_rp_1 {a : Int32} (h : a.toInt = 1) : vg_rp a = 101 := by rw [vg_rp, if_neg (by omega), if_pos h]
theorem vg_rp_2 {a : Int32} (h : a.toInt = 2) : vg_rp a = 102 := by rw [vg_rp, if_neg (by omega), if_neg (by omega), if_pos h]
theorem vg_rp_3 {a : Int32} (h : ¬ a.toInt = 0) (h1 : ¬ a.toInt = 1) (h2 : ¬ a.toInt = 2) : vg_rp a = 17 := by rw [vg_rp, if_neg h, if_neg h1, if_neg h2]
def vg_tp (f : Nat → Int32) (a : Int32) (k : Nat) : Int32 := if a.toInt = 0 then ([1, 2, 1] : List Int32).getD k 0 else if a.toInt = 1 then ([-1, 0, 9, 16, 9, 0, -1] : List Int32).getD k 0 else if a.toInt = 2 then ([3, 0, -25, 0, 150, 256, 150, 0, -25, 0, 3] : List Int32).getD k 0 else f (min k (6 - k))
theorem vg_tp_0 {f : Nat → Int32} {a : Int32} {k : Nat} (h : a.toInt = 0) : vg_tp f a k = ([1, 2, 1] : List Int32).getD k 0 := by rw [vg_tp, if_pos h]
theorem vg_tp_1 {f : Nat → Int32} {a : Int32} {k : Nat} (h : a.toInt = 1) : vg_tp f a k = ([-1, 0, 9, 16, 9, 0, -1] : List Int32).getD k 0 := by rw [vg_tp, if_neg (by omega), if_pos h]
theorem vg_tp_2 {f : Nat → Int32} {a : Int32} {k : Nat} (h : a.toInt = 2) : vg_tp f a k = ([3, 0, -25, 0, 150, 256, 150, 0, -25, 0, 3] : List Int32).getD k 0 := by rw [vg_tp, if_neg (by omega), if_neg (by omega), if_pos h]
theorem vg_tp_3 {f : Nat → Int32} {a : Int32} {k : Nat} (h : ¬ a.toInt = 0) (h1 : ¬ a.toInt = 1) (h2 : ¬ a.toInt = 2) : vg_tp f a k = f (min k (6 - k)) := by rw [vg_tp, if_neg h, if_neg h1, if_neg h2]
/-- how many are not 0 -/
def vg_cnt (f : Nat → Int32) : Nat → Int32
  | 0 => Int32.ofInt 0
  | n + 1 => if (f n).toInt = 0 then vg_cnt f n else vg_cnt f n + Int32.ofInt 1
theorem vg_nx {i j : Int32} (hi : 0 ≤ i.toInt) (hj : j.toInt = i.toInt + 1) : j.toNatClampNeg = i.toNatClampNeg + 1 := by
  have h1 : i.toNatClampNeg = i.toInt.toNat := rfl
  have h2 : j.toNatClampNeg = j.toInt.toNat := rfl
  omega
theorem vg_cnt_s1 {g : Nat → Int32} {s t v i j : Int32} (h : s = vg_cnt g i.toNatClampNeg) (hv : v = g i.toNatClampNeg) (hc : ¬ v.toInt = 0) (ht : t = s + Int32.ofInt 1) (hi : 0 ≤ i.toInt) (hj : j.toInt = i.toInt + 1) : t = vg_cnt g j.toNatClampNeg := by
  rw [vg_nx hi hj, vg_cnt, ← hv, if_neg hc, ht, h]
theorem vg_cnt_s0 {g : Nat → Int32} {s v i j : Int32} (h : s = vg_cnt g i.toNatClampNeg) (hv : v = g i.toNatClampNeg) (hc : v.toInt = 0) (hi : 0 ≤ i.toInt) (hj : j.toInt = i.toInt + 1) : s = vg_cnt g j.toNatClampNeg := by
  rw [vg_nx hi hj, vg_cnt, ← hv, if_pos hc, h]
theorem vg_cnt_s2 {g : Nat → Int32} {s t v i j : Int32} (h : s = vg_cnt g i.toNatClampNeg) (hv : v = g i.toNatClampNeg) (hc : v.toInt = 0) (ht : t = s + Int32.ofInt 0) (hi : 0 ≤ i.toInt) (hj : j.toInt = i.toInt + 1) : t = vg_cnt g j.toNatClampNeg := by
  rw [vg_nx hi hj, vg_cnt, ← hv, if_pos hc, ht, h, show Int32.ofInt 0 = (0 : Int32) from rfl, Int32.add_zero]
theorem vg_cnt_to {g : Nat → Int32} {v i : Int32} {n : Nat} (h : v = vg_cnt g i.toNatClampNeg) (hn : i.toInt.toNat = n) : v = vg_cnt g n := by
  subst hn
  exact h
theorem vg_cnt_min {g : Nat → Int32} {v k : Int32} {a n : Nat} (h : v = vg_cnt g (min k.toInt.toNat a)) (hk : k.toInt = (n : Int)) (ha : a = n) : v = vg_cnt g a := by
  rw [h, show min k.toInt.toNat a = a by omega]
theorem vg_cnt_congr {f g : Nat → Int32} : ∀ {n : Nat}, (∀ j, j < n → f j = g j) → vg_cnt f n = vg_cnt g n
  | 0, _ => rfl
  | n + 1, h => by rw [vg_cnt, vg_cnt, vg_cnt_congr (n := n) (fun j hj => h j (by omega)), h n (by omega)]
theorem vg_rs_congr {f g : Nat → Int32} : ∀ {n : Nat}, (∀ j, j < n → f j = g j) → vg_rs f n = vg_rs g n
  | 0, _ => rfl
  | n + 1, h => by rw [vg_rs, vg_rs, vg_rs_congr (n := n) (fun j hj => h j (by omega)), h n (by omega)]
theorem vg_rs_nx {g : Nat → Int32} {s t v i : Int32} (h : s = vg_rs g i.toNatClampNeg) (hv : v = g i.toNatClampNeg) (ht : t = s + v) : t = vg_rs g (i.toNatClampNeg + 1) := by rw [vg_rs, ht, h, hv]
theorem vg_rs_up {g : Nat → Int32} {t i j : Int32} (h : t = vg_rs g (i.toNatClampNeg + 1)) (hi : 0 ≤ i.toInt) (hj : j.toInt = i.toInt + 1) : t = vg_rs g j.toNatClampNeg := by rw [vg_nx hi hj, h]
theorem vg_rs_to {g : Nat → Int32} {v i : Int32} {n : Nat} (h : v = vg_rs g i.toNatClampNeg) (hn : i.toInt.toNat = n) : v = vg_rs g n := by
  subst hn
  exact h
theorem vg_hb5 {g : Nat → Int32} {i v : Int32} (e : v = g i.toNatClampNeg) (h : i.toInt = 5) (hc : v.toInt = 0) : (g 5).toInt = 0 := by
  have h1 : i.toNatClampNeg = i.toInt.toNat := rfl
  rw [show i.toNatClampNeg = 5 by omega] at e
  rw [← e]
  exact hc
theorem vg_hb5n {σ : vg_S} {i v : Int32} (e : v = σ.1 17 i.toNatClampNeg) (h : i.toInt = 5) (hc : ¬ v.toInt = 0) : ¬ (σ.1 17 5).toInt = 0 := by
  have h1 : i.toNatClampNeg = i.toInt.toNat := rfl
  rw [show i.toNatClampNeg = 5 by omega] at e
  rw [← e]
  exact hc
theorem vg_hbl {g : Nat → Int32} {i v : Int32} {n : Nat} (e : v = g i.toNatClampNeg) (h : i.toInt = (n : Int)) (h0 : (g n).toInt = 0) : v.toInt = 0 := by
  have h1 : i.toNatClampNeg = i.toInt.toNat := rfl
  rw [show i.toNatClampNeg = n by omega] at e
  rw [e]
  exact h0
/-- whether a tap does not break a half-band -/
def vg_hbk (g : Nat → Int32) (m : Int) (k : Int) : Prop := k = m ∨ ¬ (k - m) % 2 = 0 ∨ (g k.toNat).toInt = 0
def vg_hbr (g : Nat → Int32) (m n : Int) (v : Int32) : Prop := (v.toInt = 1 ∧ ∀ k : Int, 0 ≤ k → k < n → vg_hbk g m k) ∨ (v.toInt = 0 ∧ ∃ k : Int, 0 ≤ k ∧ k < n ∧ ¬ vg_hbk g m k)
theorem vg_hbr0 {g : Nat → Int32} {m : Int} : vg_hbr g m (Int32.ofInt 0).toInt (Int32.ofInt 1) := by
  have z0 : (Int32.ofInt 0).toInt = 0 := by decide
  exact Or.inl ⟨by decide, fun k h1 h2 => by omega⟩
theorem vg_hbs0 {g : Nat → Int32} {m n n' : Int} {v : Int32} (h : vg_hbr g m n v) (hv : v.toInt = 0) (hn : n' = n + 1) : vg_hbr g m n' (Int32.ofInt 0) := by
  rcases h with ⟨h1, -⟩ | ⟨-, k, h1, h2, h3⟩
  · omega
  · exact Or.inr ⟨by decide, k, h1, by omega, h3⟩
theorem vg_hbs1 {g : Nat → Int32} {m n n' : Int} {v : Int32} (h : vg_hbr g m n v) (hv : ¬ v.toInt = 0) (h0 : 0 ≤ n) (hn : n' = n + 1) (hk : vg_hbk g m n) : vg_hbr g m n' (Int32.ofInt 1) := by
  rcases h with ⟨-, h1⟩ | ⟨h1, -⟩
  · refine Or.inl ⟨by decide, fun k h2 h3 => ?_⟩
    by_cases hw : k = n
    · rw [hw]
      exact hk
    · exact h1 k h2 (by omega)
  · exact absurd h1 hv
theorem vg_hbs2 {g : Nat → Int32} {m n' : Int} {i w : Int32} (hq : w = g i.toNatClampNeg) (hw : ¬ w.toInt = 0) (h0 : 0 ≤ i.toInt) (hn : n' = i.toInt + 1) (h1 : ¬ i.toInt = m) (h2 : (i.toInt - m) % 2 = 0) : vg_hbr g m n' (Int32.ofInt 0) := by
  refine Or.inr ⟨by decide, i.toInt, h0, by omega, ?_⟩
  rintro (h | h | h)
  · exact h1 h
  · exact h h2
  · have h9 : i.toInt.toNat = i.toNatClampNeg := rfl
    rw [h9, ← hq] at h
    exact hw h
theorem vg_hbt {g : Nat → Int32} {i w : Int32} (hq : w = g i.toNatClampNeg) (hw : w.toInt = 0) : (g i.toInt.toNat).toInt = 0 := by
  have h9 : i.toInt.toNat = i.toNatClampNeg := rfl
  rw [h9, ← hq]
  exact hw
theorem vg_hbr_to {g : Nat → Int32} {m n m' n' : Int} {v w : Int32} (h : vg_hbr g m n v) (hm : m = m' ∧ n = n') (hw : (v.toInt = 0 ∧ w.toInt = 0) ∨ (¬ v.toInt = 0 ∧ w.toInt = 1)) : vg_hbr g m' n' w := by
  obtain ⟨e1, e2⟩ := hm
  subst e1
  subst e2
  rcases h with ⟨h1, h2⟩ | ⟨h1, h2⟩
  · exact Or.inl ⟨by omega, h2⟩
  · exact Or.inr ⟨by omega, h2⟩
theorem vg_par_all : ∀ n : Fin 33, ((Int32.ofInt ((n.val : Int) - 16) - Int32.ofInt ((n.val : Int) - 16) / Int32.ofInt 2 * Int32.ofInt 2).toInt = 0 ↔ ((n.val : Int) - 16) % 2 = 0) := by decide +kernel
theorem vg_par {x v : Int32} (e : v = x - x / Int32.ofInt 2 * Int32.ofInt 2) (h1 : -16 ≤ x.toInt) (h2 : x.toInt ≤ 16) : v.toInt = 0 ↔ x.toInt % 2 = 0 := by
  have h := vg_par_all ⟨(x.toInt + 16).toNat, by omega⟩
  have h3 : (((⟨(x.toInt + 16).toNat, by omega⟩ : Fin 33).val : Int) - 16) = x.toInt := by
    show (((x.toInt + 16).toNat : Nat) : Int) - 16 = x.toInt
    omega
  rw [h3, Int32.ofInt_toInt, ← e] at h
  exact h
theorem vg_own4 {s0 s1 s2 s3 s4 s5 : vg_S} {a b c d sh : Int32} (e1 : s1 = vg_u1 s0 61 (Int32.ofInt 0).toNatClampNeg a) (e2 : s2 = vg_u1 s1 61 (Int32.ofInt 1).toNatClampNeg b) (e3 : s3 = vg_u1 s2 61 (Int32.ofInt 2).toNatClampNeg c) (e4 : s4 = vg_u1 s3 61 (Int32.ofInt 3).toNatClampNeg d) (e5 : s5 = vg_u1 s4 55 21 sh) : s5.1 55 21 = sh ∧ s5.1 61 0 = a ∧ s5.1 61 1 = b ∧ s5.1 61 2 = c ∧ s5.1 61 3 = d := by
  have n0 : (Int32.ofInt 0).toNatClampNeg = 0 := by decide
  have n1 : (Int32.ofInt 1).toNatClampNeg = 1 := by decide
  have n2 : (Int32.ofInt 2).toNatClampNeg = 2 := by decide
  have n3 : (Int32.ofInt 3).toNatClampNeg = 3 := by decide
  rw [n0] at e1
  rw [n1] at e2
  rw [n2] at e3
  rw [n3] at e4
  refine ⟨by rw [e5]; exact vg_u1_self, ?_⟩
  rw [e5, vg_u1_ne (show (61 : Nat) ≠ 55 by decide), e4]
  refine ⟨?_, ?_, ?_, vg_u1_self⟩ <;> rw [vg_u1_if, if_neg (by decide)]
  all_goals rw [e3, vg_u1_if]
  all_goals first | (rw [if_pos rfl]; done) | rw [if_neg (by decide), e2, vg_u1_if]
  all_goals first | (rw [if_pos rfl]; done) | rw [if_neg (by decide), e1, vg_u1_if]
  all_goals rw [if_pos rfl]
/-! what a comb answers to a single 1 -/
def vg_ps (f : Nat → Int32) (i : Nat) : Nat → Int32
  | 0 => Int32.ofInt 0
  | n + 1 => vg_ps f i n + (if n ≤ i then f (i - n) else Int32.ofInt 0)
def vg_cc (R : Nat) : Nat → Nat → Int32
  | 0, i => if i = 0 then Int32.ofInt 1 else Int32.ofInt 0
  | k + 1, i => vg_ps (vg_cc R k) i R
theorem vg_add0 {x : Int32} : x + Int32.ofInt 0 = x := by
  rw [show Int32.ofInt 0 = (0 : Int32) from rfl, Int32.add_zero]
theorem vg_ps_over {f : Nat → Int32} {i n : Nat} : ∀ m : Nat, i < n → vg_ps f i (n + m) = vg_ps f i n
  | 0, _ => rfl
  | m + 1, h => by rw [← Nat.add_assoc, vg_ps, if_neg (by omega), vg_add0, vg_ps_over m h]
theorem vg_ps_ge {f : Nat → Int32} {i n m : Nat} (h : i < n) (h' : n ≤ m) : vg_ps f i m = vg_ps f i n := by
  rw [show m = n + (m - n) by omega, vg_ps_over _ h]
theorem vg_ps_congr {f g : Nat → Int32} {i : Nat} : ∀ {n : Nat}, (∀ j, j ≤ i → f j = g j) → vg_ps f i n = vg_ps g i n
  | 0, _ => rfl
  | n + 1, h => by
    rw [vg_ps, vg_ps, vg_ps_congr (n := n) h]
    split
    · rw [h _ (by omega)]
    · rfl
def vg_lres (o r : Int32) : Int := o.toInt * (r.toInt - 1)
theorem vg_lres_mk {o r x y v : Int32} (e : v = x * y) (hx : x.toInt = o.toInt) (hy : y.toInt = r.toInt - 1) (h1 : 1 ≤ o.toInt ∧ o.toInt ≤ 5) (h2 : 1 ≤ r.toInt ∧ r.toInt ≤ 16) : v.toInt = vg_lres o r ∧ 0 ≤ v.toInt ∧ v.toInt ≤ 75 := by
  have p1 : 0 ≤ x.toInt * y.toInt := Int.mul_nonneg (by omega) (by omega)
  have p2 : x.toInt * y.toInt ≤ 5 * 15 := Int.mul_le_mul (by omega) (by omega) (by omega) (by omega)
  have p3 := vg_mul e (by omega) (by omega)
  have p4 : x.toInt * y.toInt = vg_lres o r := by rw [hx, hy, vg_lres]
  omega
def vg_fb (z s : vg_S) (i : Int32) : Prop := (∀ j : Nat, (j : Int) ≤ i.toInt → s.1 15 j = z.1 15 j) ∧ (∀ j : Nat, i.toInt < (j : Int) → j < 76 → s.1 15 j = vg_ps (z.1 15) j (z.1 12 1).toNatClampNeg)
theorem vg_fb0 {z : vg_S} {i : Int32} (h : i.toInt = 75) : vg_fb z z i := ⟨fun _ _ => rfl, fun j h1 h2 => by omega⟩
theorem vg_fb_in {z s : vg_S} {i l2 l3 x v t l3' : Int32} (h : vg_fb z s i) (h2 : l2 = vg_ps (z.1 15) i.toNatClampNeg l3.toNatClampNeg) (ea : v = s.1 15 x.toNatClampNeg) (hx : x.toInt = i.toInt - l3.toInt) (ht : t = l2 + v) (h0 : 0 ≤ l3.toInt) (h1 : l3.toInt ≤ i.toInt) (hl : l3'.toInt = l3.toInt + 1) : t = vg_ps (z.1 15) i.toNatClampNeg l3'.toNatClampNeg := by
  have e1 : x.toNatClampNeg = x.toInt.toNat := rfl
  have e2 : i.toNatClampNeg = i.toInt.toNat := rfl
  have e3 : l3.toNatClampNeg = l3.toInt.toNat := rfl
  rw [vg_nx h0 hl, vg_ps, if_pos (by omega), ht, h2, ea, h.1 _ (by omega), show x.toNatClampNeg = i.toNatClampNeg - l3.toNatClampNeg by omega]
theorem vg_fb_nx {z s s' : vg_S} {i i' l2 l3 : Int32} (h : vg_fb z s i) (h2 : l2 = vg_ps (z.1 15) i.toNatClampNeg l3.toNatClampNeg) (e : s' = vg_u1 s 15 i.toNatClampNeg l2) (h0 : 0 ≤ i.toInt) (hi : i'.toInt = i.toInt - 1) (h3 : 0 ≤ l3.toInt) (hl : l3.toInt = (z.1 12 1).toInt ∨ (l3.toInt = i.toInt + 1 ∧ l3.toInt ≤ (z.1 12 1).toInt)) : vg_fb z s' i' := by
  have e2 : i.toNatClampNeg = i.toInt.toNat := rfl
  have e3 : l3.toNatClampNeg = l3.toInt.toNat := rfl
  have e4 : (z.1 12 1).toNatClampNeg = (z.1 12 1).toInt.toNat := rfl
  refine ⟨fun j hj => ?_, fun j hj hk => ?_⟩
  · rw [e, vg_u1_if, if_neg (by omega)]
    exact h.1 j (by omega)
  · rw [e, vg_u1_if]
    by_cases hw : j = i.toNatClampNeg
    · rw [if_pos hw, h2, hw]
      rcases hl with hl | ⟨hl, hl2⟩
      · rw [show l3.toNatClampNeg = (z.1 12 1).toNatClampNeg by omega]
      · exact (vg_ps_ge (by omega) (by omega)).symm
    · rw [if_neg hw]
      exact h.2 j (by omega) hk
theorem vg_cc0 {R : Nat} {s s' : vg_S} (h : ∀ j : Nat, j < 76 → s.1 15 j = Int32.ofInt 0) (e : s' = vg_u1 s 15 (Int32.ofInt 0).toNatClampNeg (Int32.ofInt 1)) : ∀ j : Nat, j < 76 → s'.1 15 j = vg_cc R (Int32.ofInt 0).toNatClampNeg j := by
  have n0 : (Int32.ofInt 0).toNatClampNeg = 0 := by decide
  rw [n0] at e ⊢
  intro j hj
  rw [e, vg_u1_if, vg_cc]
  split
  · rfl
  · exact h j hj
theorem vg_cc1 {R : Nat} {s t : vg_S} {l l' : Int32} (h : ∀ j : Nat, j < 76 → s.1 15 j = vg_cc R l.toNatClampNeg j) (q : ∀ j : Nat, j < 76 → t.1 15 j = vg_ps (s.1 15) j (s.1 12 1).toNatClampNeg) (hR : (s.1 12 1).toNatClampNeg = R) (h0 : 0 ≤ l.toInt) (hl : l'.toInt = l.toInt + 1) : ∀ j : Nat, j < 76 → t.1 15 j = vg_cc R l'.toNatClampNeg j := by
  intro j hj
  rw [q j hj, hR, vg_nx h0 hl, vg_cc]
  exact vg_ps_congr (fun i hi => h i (by omega))
theorem vg_cc_at {R : Nat} {s : vg_S} {l o a v : Int32} (h : ∀ j : Nat, j < 76 → s.1 15 j = vg_cc R l.toNatClampNeg j) (ea : v = s.1 15 a.toNatClampNeg) (hl : l.toInt = o.toInt) (h0 : 0 ≤ a.toInt ∧ a.toInt ≤ 75) : v = vg_cc R o.toNatClampNeg a.toNatClampNeg := by
  have e2 : a.toNatClampNeg = a.toInt.toNat := rfl
  rw [ea, h _ (by omega), vg_eqi hl]
/-- how many numbers it answers -/
def vg_mn (R : Int) : Nat → Int
  | 0 => 1
  | k + 1 => vg_mn R k + (R - 1)
theorem vg_mn_mul (R : Int) : ∀ k : Nat, vg_mn R k = 1 + (k : Int) * (R - 1)
  | 0 => by simp [vg_mn]
  | k + 1 => by
    rw [vg_mn, vg_mn_mul R k, Int.natCast_succ, Int.add_mul, Int.one_mul, Int.add_assoc]
theorem vg_mn_up {R : Int} {l i j : Int32} (h : l.toInt = vg_mn R (i.toNatClampNeg + 1)) (hi : 0 ≤ i.toInt) (hj : j.toInt = i.toInt + 1) : l.toInt = vg_mn R j.toNatClampNeg := by rw [vg_nx hi hj, h]
theorem vg_mn_add {R : Int} {l l' : Int32} {k : Nat} (h : l.toInt = vg_mn R k) (h' : l'.toInt = l.toInt + R - 1) : l'.toInt = vg_mn R (k + 1) := by
  rw [vg_mn]
  omega
theorem vg_mn_at {R : Int} {l i o : Int32} (h : l.toInt = vg_mn R i.toNatClampNeg) (hi : i.toInt = o.toInt) : l.toInt = vg_mn R o.toNatClampNeg := by rw [← vg_eqi hi, h]
theorem vg_ps_zero {f : Nat → Int32} {i : Nat} : ∀ n : Nat, (∀ j, j < n → j ≤ i → f (i - j) = Int32.ofInt 0) → vg_ps f i n = Int32.ofInt 0
  | 0, _ => rfl
  | n + 1, h => by
    rw [vg_ps, vg_ps_zero n (fun j hj => h j (by omega))]
    split
    · rw [h n (by omega) (by assumption), vg_add0]
    · rw [vg_add0]
theorem vg_cc_sup {r : Int32} (hr : 1 ≤ r.toInt) : ∀ (k i : Nat), vg_mn r.toInt k ≤ (i : Int) → vg_cc r.toNatClampNeg k i = Int32.ofInt 0
  | 0, i, h => by
    rw [vg_mn] at h
    rw [vg_cc, if_neg (by omega)]
  | k + 1, i, h => by
    have e2 : r.toNatClampNeg = r.toInt.toNat := rfl
    rw [vg_mn] at h
    rw [vg_cc]
    exact vg_ps_zero _ (fun j h1 h2 => vg_cc_sup hr k _ (by omega))
def vg_rA (R : Nat) (s : vg_S) (k : Nat) (m : Int) : Prop := ∀ j : Nat, (j : Int) < m → s.1 62 j = vg_cc R k j
def vg_rB (R : Nat) (s : vg_S) (k : Nat) (m : Int) : Prop := ∀ j : Nat, (j : Int) < m → s.1 63 j = vg_cc R k j
theorem vg_rA0 {R : Nat} {s s' : vg_S} (e : s' = vg_u1 s 62 (Int32.ofInt 0).toNatClampNeg (Int32.ofInt 1)) : vg_rA R s' (Int32.ofInt 0).toNatClampNeg (Int32.ofInt 1).toInt := by
  have n0 : (Int32.ofInt 0).toNatClampNeg = 0 := by decide
  have z1 : (Int32.ofInt 1).toInt = 1 := by decide
  rw [n0] at e ⊢
  intro j hj
  have hj0 : j = 0 := by omega
  subst hj0
  rw [e, vg_u1_self, vg_cc, if_pos rfl]
theorem vg_rAv {R : Nat} {s : vg_S} {k : Nat} : vg_rA R s k (Int32.ofInt 0).toInt := fun j hj => by
  have z0 : (Int32.ofInt 0).toInt = 0 := by decide
  omega
theorem vg_rB0 {R : Nat} {s : vg_S} {k : Nat} : vg_rB R s k (Int32.ofInt 0).toInt := fun j hj => by
  have z0 : (Int32.ofInt 0).toInt = 0 := by decide
  omega
theorem vg_rA_up {R : Nat} {s : vg_S} {i j : Int32} {m m' : Int} (h : vg_rA R s (i.toNatClampNeg + 1) m) (hi : 0 ≤ i.toInt) (hj : j.toInt = i.toInt + 1) (hm : m' ≤ m) : vg_rA R s j.toNatClampNeg m' := by
  rw [vg_nx hi hj]
  exact fun q hq => h q (by omega)
theorem vg_rB_le {R : Nat} {s : vg_S} {k : Nat} {m m' : Int} (h : vg_rB R s k m) (hm : m' ≤ m) : vg_rB R s k m' := fun q hq => h q (by omega)
theorem vg_rB_nx {r : Int32} {s : vg_S} {k : Nat} {i i' q : Int32} (h : vg_rB r.toNatClampNeg s (k + 1) i.toInt) (hc : s.1 63 i.toNatClampNeg = vg_ps (vg_cc r.toNatClampNeg k) i.toNatClampNeg q.toNatClampNeg) (hq : q.toInt = r.toInt) (h0 : 0 ≤ i.toInt) (hi : i'.toInt = i.toInt + 1) : vg_rB r.toNatClampNeg s (k + 1) i'.toInt := fun j hj => by
  have e2 : i.toNatClampNeg = i.toInt.toNat := rfl
  by_cases hw : j = i.toNatClampNeg
  · rw [hw, hc, vg_eqi hq, vg_cc]
  · exact h j (by omega)
theorem vg_rA_63 {R : Nat} {s s' : vg_S} {k i : Nat} {m : Int} {x : Int32} (h : vg_rA R s k m) (e : s' = vg_u1 s 63 i x) : vg_rA R s' k m := fun j hj => by
  rw [e, vg_u1_ne (show (62 : Nat) ≠ 63 by decide)]
  exact h j hj
theorem vg_rB_62 {R : Nat} {s s' : vg_S} {k i : Nat} {m : Int} {x : Int32} (h : vg_rB R s k m) (e : s' = vg_u1 s 62 i x) : vg_rB R s' k m := fun j hj => by
  rw [e, vg_u1_ne (show (63 : Nat) ≠ 62 by decide)]
  exact h j hj
theorem vg_rB_63 {R : Nat} {s s' : vg_S} {k : Nat} {i x : Int32} (h : vg_rB R s k i.toInt) (e : s' = vg_u1 s 63 i.toNatClampNeg x) (h0 : 0 ≤ i.toInt) : vg_rB R s' k i.toInt := fun j hj => by
  have e2 : i.toNatClampNeg = i.toInt.toNat := rfl
  rw [e, vg_u1_if, if_neg (by omega)]
  exact h j hj
theorem vg_C0 {f : Nat → Int32} {s s' : vg_S} {i : Int32} (e : s' = vg_u1 s 63 i.toNatClampNeg (Int32.ofInt 0)) : s'.1 63 i.toNatClampNeg = vg_ps f i.toNatClampNeg (Int32.ofInt 0).toNatClampNeg := by
  rw [e, vg_u1_self]
  rfl
theorem vg_C1A {R : Nat} {s s' : vg_S} {k : Nat} {i q q' x u w t : Int32} {m : Int} (hA : vg_rA R s k m) (hc : s.1 63 i.toNatClampNeg = vg_ps (vg_cc R k) i.toNatClampNeg q.toNatClampNeg) (eu : u = s.1 63 i.toNatClampNeg) (ew : w = s.1 62 x.toNatClampNeg) (et : t = u + w) (e : s' = vg_u1 s 63 i.toNatClampNeg t) (hx : x.toInt = i.toInt - q.toInt) (h0 : 0 ≤ q.toInt) (h1 : 0 ≤ x.toInt) (h2 : x.toInt < m) (hq : q'.toInt = q.toInt + 1) : s'.1 63 i.toNatClampNeg = vg_ps (vg_cc R k) i.toNatClampNeg q'.toNatClampNeg := by
  have e1 : x.toNatClampNeg = x.toInt.toNat := rfl
  have e2 : i.toNatClampNeg = i.toInt.toNat := rfl
  have e3 : q.toNatClampNeg = q.toInt.toNat := rfl
  rw [e, vg_u1_self, vg_nx h0 hq, vg_ps, if_pos (by omega), et, eu, hc, ew, hA _ (by omega), show x.toNatClampNeg = i.toNatClampNeg - q.toNatClampNeg by omega]
theorem vg_C1B {r : Int32} {s s' : vg_S} {k : Nat} {i q q' u t l : Int32} (hm : l.toInt = vg_mn r.toInt k) (hc : s.1 63 i.toNatClampNeg = vg_ps (vg_cc r.toNatClampNeg k) i.toNatClampNeg q.toNatClampNeg) (eu : u = s.1 63 i.toNatClampNeg) (et : t = u + Int32.ofInt 0) (e : s' = vg_u1 s 63 i.toNatClampNeg t) (h0 : 0 ≤ q.toInt) (hr : 1 ≤ r.toInt) (h1 : 0 ≤ i.toInt) (h2 : i.toInt - q.toInt < 0 ∨ l.toInt ≤ i.toInt - q.toInt) (hq : q'.toInt = q.toInt + 1) : s'.1 63 i.toNatClampNeg = vg_ps (vg_cc r.toNatClampNeg k) i.toNatClampNeg q'.toNatClampNeg := by
  have e2 : i.toNatClampNeg = i.toInt.toNat := rfl
  have e3 : q.toNatClampNeg = q.toInt.toNat := rfl
  rw [e, vg_u1_self, vg_nx h0 hq, vg_ps, et, eu, hc]
  split
  · rw [vg_cc_sup hr k _ (by omega)]
  · rfl
theorem vg_rA_nx {R : Nat} {s s' : vg_S} {k : Nat} {i i' v : Int32} {m : Int} (h : vg_rA R s k i.toInt) (hB : vg_rB R s k m) (ea : v = s.1 63 i.toNatClampNeg) (e : s' = vg_u1 s 62 i.toNatClampNeg v) (h0 : 0 ≤ i.toInt) (h1 : i.toInt < m) (hi : i'.toInt = i.toInt + 1) : vg_rA R s' k i'.toInt := fun j hj => by
  have e2 : i.toNatClampNeg = i.toInt.toNat := rfl
  rw [e, vg_u1_if]
  by_cases hw : j = i.toNatClampNeg
  · rw [if_pos hw, ea, hw, hB _ (by omega)]
  · rw [if_neg hw]
    exact h j (by omega)
theorem vg_rA_at {R : Nat} {s : vg_S} {l o a v : Int32} {m : Int} (h : vg_rA R s l.toNatClampNeg m) (ea : v = s.1 62 a.toNatClampNeg) (hl : l.toInt = o.toInt) (h0 : 0 ≤ a.toInt) (h1 : a.toInt < m) : v = vg_cc R o.toNatClampNeg a.toNatClampNeg := by
  have e2 : a.toNatClampNeg = a.toInt.toNat := rfl
  rw [ea, h _ (by omega), vg_eqi hl]
theorem vg_ft3 {s0 s1 s2 s3 s4 : vg_S} {m a b c : Int32} (e0 : s1 = vg_u1 s0 55 20 m) (e1 : s2 = vg_u1 s1 60 (Int32.ofInt 0).toNatClampNeg a) (e2 : s3 = vg_u1 s2 60 (Int32.ofInt 1).toNatClampNeg b) (e3 : s4 = vg_u1 s3 60 (Int32.ofInt 2).toNatClampNeg c) : s4.1 60 0 = a ∧ s4.1 60 1 = b ∧ s4.1 60 2 = c := by
  have n0 : (Int32.ofInt 0).toNatClampNeg = 0 := by decide
  have n1 : (Int32.ofInt 1).toNatClampNeg = 1 := by decide
  have n2 : (Int32.ofInt 2).toNatClampNeg = 2 := by decide
  rw [n0] at e1
  rw [n1] at e2
  rw [n2] at e3
  rw [e3]
  refine ⟨?_, ?_, vg_u1_self⟩ <;> rw [vg_u1_if, if_neg (by decide)]
  all_goals rw [e2, vg_u1_if]
  all_goals first | (rw [if_pos rfl]; done) | rw [if_neg (by decide), e1, vg_u1_if]
  all_goals rw [if_pos rfl]
end
section
/-! counts: 0 to 6 how many the stages told, 7 how many the comb took, 8 to 10 how many the folds took -/
def vk_pl (j : Nat) : Nat × Nat := match j with
  | 0 => (41, 3)
  | 1 => (43, 3)
  | 2 => (45, 3)
  | 3 => (47, 3)
  | 4 => (49, 3)
  | 5 => (51, 3)
  | 6 => (53, 3)
  | 7 => (12, 6)
  | 8 => (35, 3)
  | 9 => (37, 3)
  | _ => (39, 3)
def vk_pr (j : Nat) : Nat := match j with
  | 0 => 16
  | 1 => 17
  | 2 => 18
  | 3 => 19
  | 4 => 20
  | 5 => 21
  | 6 => 22
  | 7 => 13
  | 8 => 108
  | 9 => 109
  | _ => 110
def vk_c (σ : vg_S) : Nat → Int32 := fun j => if j < 11 then σ.1 (vk_pl j).1 (vk_pl j).2 else 0
def vk_r (σ : vg_S) : Nat → Int64 := fun j => if j < 11 then σ.2 56 (vk_pr j) else 0
def vk (σ : vg_S) : (Nat → Int32) × (Nat → Int64) := (vk_c σ, vk_r σ)
def vk_no (k i : Nat) : Bool := match k with
  | 41 => !(Nat.beq i 3)
  | 43 => !(Nat.beq i 3)
  | 45 => !(Nat.beq i 3)
  | 47 => !(Nat.beq i 3)
  | 49 => !(Nat.beq i 3)
  | 51 => !(Nat.beq i 3)
  | 53 => !(Nat.beq i 3)
  | 12 => !(Nat.beq i 6)
  | 35 => !(Nat.beq i 3)
  | 37 => !(Nat.beq i 3)
  | 39 => !(Nat.beq i 3)
  | _ => true
theorem vk_11 {j : Nat} (hj : j < 11) : j = 0 ∨ j = 1 ∨ j = 2 ∨ j = 3 ∨ j = 4 ∨ j = 5 ∨ j = 6 ∨ j = 7 ∨ j = 8 ∨ j = 9 ∨ j = 10 := by omega
theorem vk_no_ok {k i j : Nat} (h : vk_no k i = true) (hj : j < 11) : ¬ ((vk_pl j).1 = k ∧ (vk_pl j).2 = i) := by
  rintro ⟨rfl, rfl⟩
  rcases vk_11 hj with rfl | rfl | rfl | rfl | rfl | rfl | rfl | rfl | rfl | rfl | rfl <;> exact absurd h (by decide)
theorem vk_pl_inj : ∀ j : Nat, j < 11 → ∀ q : Nat, q < 11 → vk_pl j = vk_pl q → j = q := by decide
theorem vk_c_u1 {s : vg_S} {k i : Nat} {x : Int32} (h : vk_no k i = true) : vk_c (vg_u1 s k i x) = vk_c s := by
  funext j
  simp only [vk_c]
  split
  · rename_i hj
    exact vg_u1_at (vk_no_ok h hj)
  · rfl
theorem vk_k1 {s ns : vg_S} {E : (Nat → Int32) × (Nat → Int64)} {k i : Nat} {x : Int32} (hc : vk s = E) (e : ns = vg_u1 s k i x) (h : vk_no k i = true) : vk ns = E := by
  rw [e, ← hc, vk, vk_c_u1 h]
  rfl
/-! rows of counts -/
def kset {α : Type} (C : Nat → α) (i : Nat) (x : α) : Nat → α := fun j => if j = i then x else C j
def vk_inc (C : Nat → Int32) (i : Nat) : Nat → Int32 := kset C i (C i + Int32.ofInt 1)
def vr_inc (R : Nat → Int64) (i : Nat) : Nat → Int64 := kset R i (R i + Int64.ofNat 1)
theorem kset_kset {α : Type} {C : Nat → α} {i : Nat} {x y : α} : kset (kset C i x) i y = kset C i y := by
  funext j
  simp only [kset]
  split
  · rfl
  · rfl
theorem vk_k1s {s ns : vg_S} {E : (Nat → Int32) × (Nat → Int64)} {k i q : Nat} {x : Int32} (hc : vk s = E) (e : ns = vg_u1 s k i x) (h : vk_pl q = (k, i) ∧ q < 11) : vk ns = (kset E.1 q x, E.2) := by
  rw [e, ← hc, vk, vk]
  refine Prod.ext ?_ rfl
  show vk_c (vg_u1 s k i x) = kset (vk_c s) q x
  funext j
  simp only [vk_c, kset]
  by_cases hj : j = q
  · subst hj
    rw [if_pos h.2, if_pos rfl, h.1]
    exact vg_u1_self
  · rw [if_neg hj]
    split
    · rename_i h11
      refine vg_u1_at (fun hh => hj (vk_pl_inj j h11 q h.2 ?_))
      rw [h.1]
      exact Prod.ext hh.1 hh.2
    · rfl
theorem vk_kw {s ns : vg_S} {E : (Nat → Int32) × (Nat → Int64)} {k : Nat} {f : Nat → Int32} (hc : vk s = E) (e : ns = vg_w1 s k f) (h : ∀ i, vk_no k i = true) : vk ns = E := by
  rw [e, ← hc, vk, vk]
  refine Prod.ext ?_ rfl
  show vk_c (vg_w1 s k f) = vk_c s
  funext j
  simp only [vk_c]
  split
  · rename_i hj
    rw [vg_w1_at (fun hh => vk_no_ok (h (vk_pl j).2) hj ⟨hh, rfl⟩)]
  · rfl
theorem vk_k2 {s ns : vg_S} {E : (Nat → Int32) × (Nat → Int64)} {k i : Nat} {x : Int64} (hc : vk s = E) (e : ns = vg_u2 s k i x) (h : Nat.beq k 56 = false) : vk ns = E := by
  rw [e, ← hc, vk, vk]
  refine Prod.ext rfl ?_
  show vk_r (vg_u2 s k i x) = vk_r s
  funext j
  simp only [vk_r]
  split
  · refine vg_u2_at (fun hh => ?_)
    rw [← hh.1] at h
    cases h
  · rfl
def vr_put (R : Nat → Int64) (p : Int) (x : Int64) : Nat → Int64 := fun j => if j < 11 ∧ (vk_pr j : Int) = p then x else R j
def vr_wipe (lo hi : Int) (R : Nat → Int64) : Nat → Int64 := fun j => if j < 11 ∧ lo ≤ (vk_pr j : Int) ∧ (vk_pr j : Int) < hi then Int64.ofNat 0 else R j
theorem vk_k2g {s ns : vg_S} {E : (Nat → Int32) × (Nat → Int64)} {ix : Int32} {x : Int64} (hc : vk s = E) (e : ns = vg_u2 s 56 ix.toNatClampNeg x) (h0 : 0 ≤ ix.toInt) : vk ns = (E.1, vr_put E.2 ix.toInt x) := by
  have h9 : ix.toNatClampNeg = ix.toInt.toNat := rfl
  rw [e, ← hc, vk, vk]
  refine Prod.ext rfl ?_
  show vk_r (vg_u2 s 56 ix.toNatClampNeg x) = vr_put (vk_r s) ix.toInt x
  funext j
  simp only [vk_r, vr_put]
  by_cases hj : j < 11
  · rw [if_pos hj, if_pos hj]
    by_cases hp : (vk_pr j : Int) = ix.toInt
    · rw [if_pos ⟨hj, hp⟩, show vk_pr j = ix.toNatClampNeg by omega]
      exact vg_u2_self
    · rw [if_neg (fun hh => hp hh.2)]
      exact vg_u2_at (fun hh => hp (by omega))
  · rw [if_neg hj, if_neg hj, if_neg (fun hh => hj hh.1)]
theorem vk_pr_at {q : Nat} {p : Int} (h : (q < 7 ∧ p = 16 + (q : Int)) ∨ (q = 7 ∧ p = 13) ∨ (8 ≤ q ∧ q ≤ 10 ∧ p = 100 + (q : Int))) : q < 11 ∧ (vk_pr q : Int) = p := by
  have hq : q < 11 := by omega
  refine ⟨hq, ?_⟩
  rcases vk_11 hq with rfl | rfl | rfl | rfl | rfl | rfl | rfl | rfl | rfl | rfl | rfl <;> simp only [vk_pr] <;> omega
theorem vk_pr_inj : ∀ j : Nat, j < 11 → ∀ q : Nat, q < 11 → vk_pr j = vk_pr q → j = q := by decide
theorem vr_put_set {R : Nat → Int64} {q : Nat} {p : Int} {x : Int64} (h : (q < 7 ∧ p = 16 + (q : Int)) ∨ (q = 7 ∧ p = 13) ∨ (8 ≤ q ∧ q ≤ 10 ∧ p = 100 + (q : Int))) : vr_put R p x = kset R q x := by
  obtain ⟨h1, h2⟩ := vk_pr_at h
  funext j
  simp only [vr_put, kset]
  by_cases hj : j = q
  · subst hj
    rw [if_pos ⟨h1, h2⟩, if_pos rfl]
  · rw [if_neg hj, if_neg (fun hh => hj (vk_pr_inj j hh.1 q h1 (by omega)))]
theorem vr_put_no {R : Nat → Int64} {p : Int} {x : Int64} (h : p < 13 ∨ (13 < p ∧ p < 16) ∨ (22 < p ∧ p < 108) ∨ 110 < p) : vr_put R p x = R := by
  funext j
  simp only [vr_put]
  refine if_neg (fun hh => ?_)
  obtain ⟨h1, h2⟩ := hh
  rcases vk_11 h1 with rfl | rfl | rfl | rfl | rfl | rfl | rfl | rfl | rfl | rfl | rfl <;> simp only [vk_pr] at h2 <;> omega
theorem vk_k2o {s ns : vg_S} {E : (Nat → Int32) × (Nat → Int64)} {ix : Int32} {x : Int64} (hc : vk s = E) (e : ns = vg_u2 s 56 ix.toNatClampNeg x) (h : 0 ≤ ix.toInt ∧ (ix.toInt < 13 ∨ (13 < ix.toInt ∧ ix.toInt < 16) ∨ (22 < ix.toInt ∧ ix.toInt < 108) ∨ 110 < ix.toInt)) : vk ns = E := by
  rw [vk_k2g hc e h.1, vr_put_no h.2]
theorem vk_k2s {q : Nat} {s ns : vg_S} {E : (Nat → Int32) × (Nat → Int64)} {ix : Int32} {x : Int64} (hc : vk s = E) (e : ns = vg_u2 s 56 ix.toNatClampNeg x) (h : (q < 7 ∧ ix.toInt = 16 + (q : Int)) ∨ (q = 7 ∧ ix.toInt = 13) ∨ (8 ≤ q ∧ q ≤ 10 ∧ ix.toInt = 100 + (q : Int))) : vk ns = (E.1, kset E.2 q x) := by
  rw [vk_k2g hc e (by omega), vr_put_set h]
theorem vk_k2i {q : Nat} {s ns : vg_S} {E : (Nat → Int32) × (Nat → Int64)} {ix iy : Int32} {x v : Int64} (hc : vk s = E) (hx : x = s.2 56 iy.toNatClampNeg) (hv : v = x + Int64.ofNat 1) (e : ns = vg_u2 s 56 ix.toNatClampNeg v) (h : (q < 7 ∧ ix.toInt = 16 + (q : Int)) ∨ (q = 7 ∧ ix.toInt = 13) ∨ (8 ≤ q ∧ q ≤ 10 ∧ ix.toInt = 100 + (q : Int))) (hy : iy.toInt = ix.toInt) : vk ns = (E.1, vr_inc E.2 q) := by
  have h9 : ix.toNatClampNeg = ix.toInt.toNat := rfl
  obtain ⟨h1, h2⟩ := vk_pr_at h
  have hq : E.2 q = x := by
    rw [← hc, hx, vg_eqi hy]
    show vk_r s q = _
    simp only [vk_r]
    rw [if_pos h1, show vk_pr q = ix.toNatClampNeg by omega]
  rw [vk_k2s hc e h, vr_inc, hq, hv]
theorem vr_wipe_no {R : Nat → Int64} {lo hi : Int} (h : hi ≤ 13 ∨ (14 ≤ lo ∧ hi ≤ 16) ∨ (23 ≤ lo ∧ hi ≤ 108) ∨ 111 ≤ lo) : vr_wipe lo hi R = R := by
  funext j
  simp only [vr_wipe]
  refine if_neg (fun hh => ?_)
  obtain ⟨h1, h2⟩ := hh
  rcases vk_11 h1 with rfl | rfl | rfl | rfl | rfl | rfl | rfl | rfl | rfl | rfl | rfl <;> simp only [vk_pr] at h2 <;> omega
theorem vr_wipe_7 {R : Nat → Int64} {lo hi : Int} (h : lo = 13 ∧ hi = 16) : vr_wipe lo hi R = kset R 7 (Int64.ofNat 0) := by
  funext j
  simp only [vr_wipe, kset]
  by_cases hj : j = 7
  · subst hj
    rw [if_pos rfl, if_pos ⟨by decide, by simp only [vk_pr]; omega⟩]
  · rw [if_neg hj]
    refine if_neg (fun hh => ?_)
    obtain ⟨h1, h2⟩ := hh
    rcases vk_11 h1 with rfl | rfl | rfl | rfl | rfl | rfl | rfl | rfl | rfl | rfl | rfl <;> simp only [vk_pr] at h2 <;> first | (exact hj rfl) | omega
theorem vk_wno {s t : vg_S} {E : (Nat → Int32) × (Nat → Int64)} {lo hi : Int} (h : vk t = ((vk s).1, vr_wipe lo hi (vk s).2)) (hc : vk s = E) (h' : hi ≤ 13 ∨ (14 ≤ lo ∧ hi ≤ 16) ∨ (23 ≤ lo ∧ hi ≤ 108) ∨ 111 ≤ lo) : vk t = E := by
  rw [h, vr_wipe_no h', ← hc]
theorem vk_w7 {s t : vg_S} {E : (Nat → Int32) × (Nat → Int64)} {lo hi : Int} (h : vk t = ((vk s).1, vr_wipe lo hi (vk s).2)) (hc : vk s = E) (h' : lo = 13 ∧ hi = 16) : vk t = (E.1, kset E.2 7 (Int64.ofNat 0)) := by
  rw [h, vr_wipe_7 h', hc]
theorem vr_wipe_0 {R : Nat → Int64} {lo : Int} : vr_wipe lo lo R = R := by
  funext j
  simp only [vr_wipe]
  exact if_neg (fun hh => by omega)
theorem vr_wipe_s {R : Nat → Int64} {lo p p' : Int} (h : lo ≤ p) (hp : p' = p + 1) : vr_put (vr_wipe lo p R) p (Int64.ofNat 0) = vr_wipe lo p' R := by
  funext j
  simp only [vr_put, vr_wipe]
  by_cases h1 : j < 11 ∧ (vk_pr j : Int) = p
  · rw [if_pos h1, if_pos ⟨h1.1, by omega, by omega⟩]
  · rw [if_neg h1]
    by_cases h2 : j < 11 ∧ lo ≤ (vk_pr j : Int) ∧ (vk_pr j : Int) < p
    · rw [if_pos h2, if_pos ⟨h2.1, h2.2.1, by omega⟩]
    · rw [if_neg h2, if_neg (fun hh => h2 ⟨hh.1, hh.2.1, by have h3 : ¬ (vk_pr j : Int) = p := fun q => h1 ⟨hh.1, q⟩; omega⟩)]
/-! all from a stage on begins anew -/
def kb1 {α : Type} (o : α) (st l : Int) (C : Nat → α) : Nat → α := fun i => if i < 7 ∧ st ≤ (i : Int) ∧ (i : Int) < l then o else C i
def kb2 {α : Type} (o : α) (st f : Int) (C : Nat → α) : Nat → α := fun i => if (i < 7 ∧ st ≤ (i : Int)) ∨ (i = 7 ∧ st ≤ 3) ∨ (8 ≤ i ∧ i ≤ 10 ∧ (i : Int) < 8 + f ∧ st + 4 ≤ (i : Int)) then o else C i
theorem kif {α : Type} {p q : Prop} [Decidable p] [Decidable q] {o c : α} (h : p ↔ q) : (if p then o else c) = (if q then o else c) := by
  by_cases hp : p
  · rw [if_pos hp, if_pos (h.mp hp)]
  · rw [if_neg hp, if_neg (fun hq => hp (h.mpr hq))]
theorem kset_if {α : Type} {p : Nat → Prop} [∀ i, Decidable (p i)] {o : α} {C : Nat → α} {n : Nat} : kset (fun i => if p i then o else C i) n o = fun i => if p i ∨ i = n then o else C i := by
  funext j
  simp only [kset]
  by_cases hj : j = n
  · rw [if_pos hj, if_pos (Or.inr hj)]
  · rw [if_neg hj]
    exact kif ⟨Or.inl, fun h => h.elim id (fun q => absurd q hj)⟩
theorem kb1_0 {α : Type} {o : α} {st l : Int} {C : Nat → α} (h : l ≤ st) : kb1 o st l C = C := by
  funext i
  exact if_neg (fun hh => by omega)
theorem kb1_s {α : Type} {o : α} {st l l' : Int} {n : Nat} {C : Nat → α} (h1 : st ≤ l) (h2 : l = (n : Int)) (h3 : n < 7) (h4 : l' = l + 1) : kset (kb1 o st l C) n o = kb1 o st l' C := by
  unfold kb1
  rw [kset_if]
  funext i
  exact kif (by omega)
theorem vk_at {s : vg_S} {E : (Nat → Int32) × (Nat → Int64)} {k i q : Nat} (hc : vk s = E) (h : vk_pl q = (k, i) ∧ q < 11) : E.1 q = s.1 k i := by
  rw [← hc]
  show vk_c s q = _
  simp only [vk_c]
  rw [if_pos h.2, h.1]
theorem vk_kv {s : vg_S} {E : (Nat → Int32) × (Nat → Int64)} {k i q : Nat} {x v : Int32} (hc : vk s = E) (hx : s.1 k i = x) (hv : v = x + Int32.ofInt 1) (h : vk_pl q = (k, i) ∧ q < 11) : v = E.1 q + Int32.ofInt 1 := by
  rw [vk_at hc h, hx, hv]
theorem vk_k1i {s ns : vg_S} {E : (Nat → Int32) × (Nat → Int64)} {k i q : Nat} {x v : Int32} (hc : vk s = E) (hx : s.1 k i = x) (hv : v = x + Int32.ofInt 1) (e : ns = vg_u1 s k i v) (h : vk_pl q = (k, i) ∧ q < 11) : vk ns = (vk_inc E.1 q, E.2) := by
  rw [vk_k1s hc e h, vk_inc, vk_at hc h, hx, hv]
theorem vk_l {t : vg_S} {C C' : Nat → Int32} {R : Nat → Int64} (hc : vk t = (C, R)) (h : C = C') : vk t = (C', R) := by rw [hc, h]
theorem vk_rr {t : vg_S} {C : Nat → Int32} {R R' : Nat → Int64} (hc : vk t = (C, R)) (h : R = R') : vk t = (C, R') := by rw [hc, h]
theorem kb2_0a {α : Type} {o : α} {st l : Int} {C : Nat → α} (h : 7 ≤ l) (h3 : st ≤ 3) : kset (kb1 o st l C) 7 o = kb2 o st 0 C := by
  unfold kb1 kb2
  rw [kset_if]
  funext i
  exact kif (by omega)
theorem kb2_0b {α : Type} {o : α} {st l f : Int} {C : Nat → α} (h : 7 ≤ l) (h3 : ¬ st ≤ 3) (hf : f = 0 ∨ f ≤ st - 4) : kb1 o st l C = kb2 o st f C := by
  unfold kb1 kb2
  funext i
  exact kif (by omega)
theorem kb2_0c {α : Type} {o : α} {st l f : Int} {C : Nat → α} (h : 7 ≤ l) (h3 : st ≤ 3) (hf : f = 0) : kset (kb1 o st l C) 7 o = kb2 o st f C := by
  subst hf
  exact kb2_0a h h3
theorem kb2_s {α : Type} {o : α} {st f f' : Int} {q : Nat} {C : Nat → α} (h1 : (q : Int) = 8 + f) (h2 : 0 ≤ f ∧ f < 3) (h3 : st ≤ 4 + f) (h4 : f' = f + 1) : kset (kb2 o st f C) q o = kb2 o st f' C := by
  unfold kb2
  rw [kset_if]
  funext i
  exact kif (by omega)
theorem kb2_n {α : Type} {o : α} {st f f' : Int} {C : Nat → α} (h3 : ¬ st ≤ 4 + f) (h4 : f' = f + 1) : kb2 o st f C = kb2 o st f' C := by
  unfold kb2
  funext i
  exact kif (by omega)
theorem kb2_e {α : Type} {o : α} {st f : Int} {C : Nat → α} (h : 3 ≤ f) : kb2 o st f C = kb2 o st 3 C := by
  unfold kb2
  funext i
  exact kif (by omega)
/-! a clock -/
def vk_fl (x : Int32) : Int32 := if x.toInt = 0 then Int32.ofInt 1 else Int32.ofInt 0
def vk_tk (r : Int) (C : Nat → Int32) : Nat → Int32 := if (C 7 + Int32.ofInt 1).toInt < r then vk_inc C 7 else kset C 7 (Int32.ofInt 0)
theorem vk_tk1 {r : Int} {C : Nat → Int32} (h : (C 7 + Int32.ofInt 1).toInt < r) : vk_inc C 7 = vk_tk r C := by rw [vk_tk, if_pos h]
theorem vk_tk2 {r : Int} {C : Nat → Int32} (h : ¬ (C 7 + Int32.ofInt 1).toInt < r) : kset C 7 (Int32.ofInt 0) = vk_tk r C := by rw [vk_tk, if_neg h]
/-- what is left to do of the folds, from fold 3 - n on -/
def vk_ff (m : Int) : Nat → (Nat → Int32) → (Nat → Int32)
  | 0, C => C
  | n + 1, C => if ((2 - n : Nat) : Int) < m then (if (C (10 - n)).toInt = 0 then kset C (10 - n) (vk_fl (C (10 - n))) else vk_ff m n (vk_inc (kset C (10 - n) (vk_fl (C (10 - n)))) (6 - n))) else C
def vk_comb (r m : Int) (C : Nat → Int32) : Nat → Int32 := if (C 7 + Int32.ofInt 1).toInt < r then vk_tk r C else vk_ff m 3 (vk_inc (vk_tk r C) 3)
def vk_step (r m : Int) (C : Nat → Int32) : Nat → Int32 := vk_comb r m (vk_inc (vk_inc (vk_inc C 0) 1) 2)
def vk_it (r m : Int) : Nat → (Nat → Int32) → (Nat → Int32)
  | 0, C => C
  | n + 1, C => vk_step r m (vk_it r m n C)
theorem vk_st0 {r r' m : Int} {C : Nat → Int32} (hr : r' = r) (h : (vk_inc (vk_inc (vk_inc C 0) 1) 2 7 + Int32.ofInt 1).toInt < r) : vk_tk r' (vk_inc (vk_inc (vk_inc C 0) 1) 2) = vk_step r m C := by
  rw [hr, vk_step, vk_comb, if_pos h]
theorem vk_st1 {r r' m m' : Int} {C : Nat → Int32} (hr : r' = r) (hm : m' = m) (h : ¬ (vk_inc (vk_inc (vk_inc C 0) 1) 2 7 + Int32.ofInt 1).toInt < r) : vk_ff m' 3 (vk_inc (vk_tk r' (vk_inc (vk_inc (vk_inc C 0) 1) 2)) 3) = vk_step r m C := by
  rw [hr, hm, vk_step, vk_comb, if_neg h]
theorem vk_it_s {r r' m m' : Int} {C : Nat → Int32} {l l' : Int32} (hr : r' = r) (hm : m' = m) (h0 : 0 ≤ l.toInt) (hl : l'.toInt = l.toInt + 1) : vk_step r' m' (vk_it r m l.toNatClampNeg C) = vk_it r m l'.toNatClampNeg C := by
  rw [hr, hm, vg_nx h0 hl, vk_it]
theorem vk_h1 {t : vg_S} {C : Nat → Int32} {R : Nat → Int64} (hc : vk t = (C, R)) : vk t = ((vk t).1, R) := by rw [hc]
theorem vk_h2 {t : vg_S} {C : Nat → Int32} {R : Nat → Int64} (hc : vk t = (C, R)) : vk t = (C, (vk t).2) := by rw [hc]
theorem vk_ff_nx {m : Int} {C C' X : Nat → Int32} {l l' : Int32} {f q p : Nat} (x : vk_ff m (3 - l.toNatClampNeg) C = X) (hl : l.toInt = (f : Int)) (hf : f < 3 ∧ (f : Int) < m) (hq : q = 8 + f) (hp : p = 4 + f) (hb : ¬ (C q).toInt = 0) (hl' : l'.toInt = l.toInt + 1) (hC : C' = vk_inc (kset C q (vk_fl (C q))) p) : vk_ff m (3 - l'.toNatClampNeg) C' = X := by
  have h1 : l.toNatClampNeg = l.toInt.toNat := rfl
  have h2 : l'.toNatClampNeg = l'.toInt.toNat := rfl
  rw [← x, hC, show 3 - l.toNatClampNeg = (2 - f) + 1 by omega, show 3 - l'.toNatClampNeg = 2 - f by omega, vk_ff, if_pos (by omega), show 10 - (2 - f) = q by omega, if_neg hb, show 6 - (2 - f) = p by omega]
theorem vk_ff_st {m : Int} {C X : Nat → Int32} {l : Int32} {f q : Nat} (x : vk_ff m (3 - l.toNatClampNeg) C = X) (hl : l.toInt = (f : Int)) (hf : f < 3 ∧ (f : Int) < m) (hq : q = 8 + f) (hb : (C q).toInt = 0) (h0 : 0 ≤ l.toInt) : kset C q (vk_fl (C q)) = X := by
  have h1 : l.toNatClampNeg = l.toInt.toNat := rfl
  rw [← x, show 3 - l.toNatClampNeg = (2 - f) + 1 by omega, vk_ff, if_pos (by omega), show 10 - (2 - f) = q by omega, if_pos hb]
theorem vk_ff_end {m : Int} {C X : Nat → Int32} {l : Int32} (x : vk_ff m (3 - l.toNatClampNeg) C = X) (h : m ≤ l.toInt ∧ 0 ≤ l.toInt) : C = X := by
  have h1 : l.toNatClampNeg = l.toInt.toNat := rfl
  rw [← x]
  cases hn : 3 - l.toNatClampNeg with
  | zero => rfl
  | succ n => rw [vk_ff, if_neg (by omega)]
theorem vk_toldm {s : vg_S} {a v : Int32} {k i q : Nat} (e : v = s.1 k i) (h : vk_pl q = (k, i) ∧ q < 11) (ha : a.toInt = (q : Int)) : v = (vk s).1 a.toNatClampNeg := by
  have h1 : a.toNatClampNeg = a.toInt.toNat := rfl
  rw [e, show a.toNatClampNeg = q by omega]
  exact (vk_at rfl h).symm
/-! the reference's clock -/
def vr_rm (x : Int64) (r : Int32) : Int := (lg_cmp (x - x / r.toInt64 * r.toInt64) (Int64.ofNat 0)).toInt
def vr_od (x : Int64) : Int := (lg_cmp (x - x / Int64.ofInt 2 * Int64.ofInt 2) (Int64.ofNat 1)).toInt
theorem vk_ar {q : Nat} {s : vg_S} {E : (Nat → Int32) × (Nat → Int64)} {ix : Int32} {x : Int64} (hc : vk s = E) (hx : x = s.2 56 ix.toNatClampNeg) (h : (q < 7 ∧ ix.toInt = 16 + (q : Int)) ∨ (q = 7 ∧ ix.toInt = 13) ∨ (8 ≤ q ∧ q ≤ 10 ∧ ix.toInt = 100 + (q : Int))) : x = E.2 q := by
  have h9 : ix.toNatClampNeg = ix.toInt.toNat := rfl
  obtain ⟨h1, h2⟩ := vk_pr_at h
  rw [← hc, hx]
  show _ = vk_r s q
  simp only [vk_r]
  rw [if_pos h1, show vk_pr q = ix.toNatClampNeg by omega]
theorem vr_rmk {x X v y : Int64} {r r0 c : Int32} (hx : x = X) (hv : v = x - x / y * y) (hy : y = r.toInt64) (hc : c = lg_cmp v (Int64.ofNat 0)) (hr : r = r0) : c.toInt = vr_rm X r0 := by
  subst hx
  subst hr
  subst hy
  rw [vr_rm, hc, hv]
theorem vr_odk {x X v : Int64} {c : Int32} (hx : x = X) (hv : v = x - x / Int64.ofInt 2 * Int64.ofInt 2) (hc : c = lg_cmp v (Int64.ofNat 1)) : c.toInt = vr_od X := by
  subst hx
  rw [vr_od, hc, hv]
def vr_tk (r : Int32) (R : Nat → Int64) : Nat → Int64 := if vr_rm (vr_inc R 7 7) r = 0 then vr_inc (vr_inc R 7) 3 else vr_inc R 7
theorem vr_tk1 {r : Int32} {R : Nat → Int64} (h : vr_rm (vr_inc R 7 7) r = 0) : vr_inc (vr_inc R 7) 3 = vr_tk r R := by rw [vr_tk, if_pos h]
theorem vr_tk0 {r : Int32} {R : Nat → Int64} (h : ¬ vr_rm (vr_inc R 7 7) r = 0) : vr_inc R 7 = vr_tk r R := by rw [vr_tk, if_neg h]
def vr_fd (f : Nat) (R : Nat → Int64) : Nat → Int64 := if vr_od (vr_inc R (8 + f) (8 + f)) = 0 then vr_inc R (8 + f) else vr_inc (vr_inc R (8 + f)) (4 + f)
theorem vr_fd0 {f : Nat} {R : Nat → Int64} (h : vr_od (vr_inc R (8 + f) (8 + f)) = 0) : vr_inc R (8 + f) = vr_fd f R := by rw [vr_fd, if_pos h]
theorem vr_fd1 {f : Nat} {R : Nat → Int64} (h : ¬ vr_od (vr_inc R (8 + f) (8 + f)) = 0) : vr_inc (vr_inc R (8 + f)) (4 + f) = vr_fd f R := by rw [vr_fd, if_neg h]
def vr_ff (m : Int) : Nat → (Nat → Int64) → (Nat → Int64)
  | 0, R => R
  | n + 1, R => if ((2 - n : Nat) : Int) < m then (if vr_od (vr_inc R (10 - n) (10 - n)) = 0 then vr_inc R (10 - n) else vr_ff m n (vr_inc (vr_inc R (10 - n)) (6 - n))) else R
def vr_comb (r : Int32) (m : Int) (R : Nat → Int64) : Nat → Int64 := if vr_rm (vr_inc R 7 7) r = 0 then vr_ff m 3 (vr_tk r R) else vr_tk r R
def vr_step (r : Int32) (m : Int) (R : Nat → Int64) : Nat → Int64 := vr_comb r m (vr_inc (vr_inc (vr_inc R 0) 1) 2)
def vr_it (r : Int32) (m : Int) : Nat → (Nat → Int64) → (Nat → Int64)
  | 0, R => R
  | n + 1, R => vr_step r m (vr_it r m n R)
theorem vr_it_s {r r' : Int32} {m m' : Int} {R : Nat → Int64} {l l' : Int32} (hr : r' = r) (hm : m' = m) (h0 : 0 ≤ l.toInt) (hl : l'.toInt = l.toInt + 1) : vr_step r' m' (vr_it r m l.toNatClampNeg R) = vr_it r m l'.toNatClampNeg R := by
  rw [hr, hm, vg_nx h0 hl, vr_it]
def vr_gi (m : Int) (l4 l5 : Int32) (R S : Nat → Int64) : Prop := (l4.toInt = 0 ∧ R = S) ∨ (¬ l4.toInt = 0 ∧ vr_ff m (3 - l5.toNatClampNeg) R = S)
theorem vr_g0 {z s t : vg_S} {C C' : Nat → Int32} {v : Int32} {m : Int} (hck : vk t = (C, vr_tk (s.1 55 17) (vr_inc (vr_inc (vr_inc (vk z).2 0) 1) 2))) (h3 : vk s = (C', vr_inc (vr_inc (vr_inc (vk z).2 0) 1) 2)) (h4 : s.1 55 17 = z.1 55 17) (h5 : (v.toInt = 0 ∧ ¬ vr_rm (vr_inc (vk s).2 7 7) (s.1 55 17) = 0) ∨ (v.toInt = 1 ∧ vr_rm (vr_inc (vk s).2 7 7) (s.1 55 17) = 0)) : vr_gi m v (Int32.ofInt 0) (vk t).2 (vr_step (z.1 55 17) m (vk z).2) := by
  rw [h3, h4] at h5
  rw [h4] at hck
  rw [hck]
  rcases h5 with ⟨a, b⟩ | ⟨a, b⟩
  · refine Or.inl ⟨a, ?_⟩
    rw [vr_step, vr_comb, if_neg b]
  · refine Or.inr ⟨by omega, ?_⟩
    rw [vr_step, vr_comb, if_pos b]
    rfl
theorem vr_g1 {m : Int} {l4 l5 v l5' : Int32} {s t : vg_S} {C : Nat → Int32} {S : Nat → Int64} (x : vr_gi m l4 l5 (vk s).2 S) (hck : vk t = (C, vr_fd l5.toNatClampNeg (vk s).2)) (hq : (v.toInt = 0 ∧ vr_od (vr_inc (vk s).2 (8 + l5.toNatClampNeg) (8 + l5.toNatClampNeg)) = 0) ∨ (v.toInt = 1 ∧ ¬ vr_od (vr_inc (vk s).2 (8 + l5.toNatClampNeg) (8 + l5.toNatClampNeg)) = 0)) (h1 : ¬ l4.toInt = 0) (h2 : 0 ≤ l5.toInt ∧ l5.toInt < 3 ∧ l5.toInt < m) (hl : l5'.toInt = l5.toInt + 1) : vr_gi m v l5' (vk t).2 S := by
  have e1 : l5.toNatClampNeg = l5.toInt.toNat := rfl
  have e2 : l5'.toNatClampNeg = l5'.toInt.toNat := rfl
  rcases x with ⟨a, -⟩ | ⟨-, x⟩
  · exact absurd a h1
  · rw [show 3 - l5.toNatClampNeg = (2 - l5.toNatClampNeg) + 1 by omega, vr_ff, if_pos (by omega), show 10 - (2 - l5.toNatClampNeg) = 8 + l5.toNatClampNeg by omega, show 6 - (2 - l5.toNatClampNeg) = 4 + l5.toNatClampNeg by omega] at x
    rw [hck]
    rcases hq with ⟨a, b⟩ | ⟨a, b⟩
    · rw [if_pos b] at x
      exact Or.inl ⟨a, by rw [← x]; exact (vr_fd0 b).symm⟩
    · rw [if_neg b] at x
      refine Or.inr ⟨by omega, ?_⟩
      rw [← x, show 3 - l5'.toNatClampNeg = 2 - l5.toNatClampNeg by omega]
      show vr_ff m _ (vr_fd _ _) = _
      rw [← vr_fd1 b]
theorem vr_ge {m : Int} {l4 l5 : Int32} {R S : Nat → Int64} (x : vr_gi m l4 l5 R S) (h : l4.toInt = 0 ∨ (m ≤ l5.toInt ∧ 0 ≤ l5.toInt)) : R = S := by
  have e1 : l5.toNatClampNeg = l5.toInt.toNat := rfl
  rcases x with ⟨-, x⟩ | ⟨a, x⟩
  · exact x
  · rw [← x]
    cases hn : 3 - l5.toNatClampNeg with
    | zero => rfl
    | succ n => rw [vr_ff, if_neg (by omega)]
theorem vr_toldm {s : vg_S} {a ix v : Int32} (e : v = (s.2 56 ix.toNatClampNeg).toInt32) (h : ix.toInt = 16 + a.toInt) (ha : 0 ≤ a.toInt ∧ a.toInt ≤ 6) : v = ((vk s).2 a.toNatClampNeg).toInt32 := by
  have e1 : a.toNatClampNeg = a.toInt.toNat := rfl
  rw [e, vk_ar (q := a.toNatClampNeg) (s := s) (x := s.2 56 ix.toNatClampNeg) rfl rfl (by omega)]
theorem vk_cpo {s t : vg_S} {C : Nat → Int32} {R : Nat → Int64} (h1 : t.1 = s.1) (h2 : t.2 56 = s.2 56) (hc : vk s = (C, R)) : vk t = (C, R) := by
  rw [← hc, vk, vk]
  refine Prod.ext ?_ ?_
  · show vk_c t = vk_c s
    unfold vk_c
    rw [h1]
  · show vk_r t = vk_r s
    unfold vk_r
    rw [h2]
theorem vk_pr_lt : ∀ j : Nat, j < 11 → vk_pr j < 481 := by decide
theorem vk_cpi {z s t : vg_S} {A : Nat} {C : Nat → Int32} {R : Nat → Int64} (h1 : t.1 = s.1) (h2 : ∀ j : Nat, j < 481 → t.2 56 j = s.2 A j) (h3 : ∀ j : Nat, j < 481 → s.2 A j = z.2 56 j) (hc : vk s = (C, R)) : vk t = (C, (vk z).2) := by
  refine Prod.ext ?_ ?_
  · have h4 : (vk s).1 = C := by rw [hc]
    rw [← h4]
    show vk_c t = vk_c s
    unfold vk_c
    rw [h1]
  · show vk_r t = vk_r z
    unfold vk_r
    funext j
    split
    · rename_i hj
      rw [h2 _ (vk_pr_lt j hj), h3 _ (vk_pr_lt j hj)]
    · rfl
end
section
/-! the class's counts out of the reference's -/
theorem vg_lmul {x y v : Int64} (e : v = x * y) (h1 : -9223372036854775808 ≤ x.toInt * y.toInt) (h2 : x.toInt * y.toInt ≤ 9223372036854775807) : v.toInt = x.toInt * y.toInt := by
  rw [e, Int64.toInt_mul]
  generalize x.toInt * y.toInt = z at h1 h2
  simp only [Int.bmod]
  omega
theorem vg_lsub {x y v : Int64} (e : v = x - y) (h1 : -9223372036854775808 ≤ x.toInt - y.toInt) (h2 : x.toInt - y.toInt ≤ 9223372036854775807) : v.toInt = x.toInt - y.toInt := by
  rw [e, Int64.toInt_sub]
  simp only [Int.bmod]
  omega
theorem vg_ldiv {x y : Int64} (hx : 0 ≤ x.toInt) (hx2 : x.toInt ≤ 4000000000) (hy : 0 < y.toInt) : (x / y).toInt = x.toInt / y.toInt := by
  rw [Int64.toInt_div, Int.tdiv_eq_ediv_of_nonneg hx]
  have h3 : x.toInt / y.toInt ≤ x.toInt := Int.ediv_le_self _ hx
  have h4 : 0 ≤ x.toInt / y.toInt := Int.ediv_nonneg hx (by omega)
  generalize x.toInt / y.toInt = z at h3 h4
  simp only [Int.bmod]
  omega
theorem vg_lrem {x y : Int64} (hx : 0 ≤ x.toInt) (hx2 : x.toInt ≤ 4000000000) (hy : 0 < y.toInt) : (x - x / y * y).toInt = x.toInt % y.toInt := by
  have hd := vg_ldiv hx hx2 hy
  have hem := Int.emod_add_mul_ediv x.toInt y.toInt
  have hm0 := Int.emod_nonneg x.toInt (by omega : y.toInt ≠ 0)
  have hm1 := Int.emod_lt_of_pos x.toInt hy
  have h5 : 0 ≤ x.toInt / y.toInt := Int.ediv_nonneg hx (by omega)
  have h6 : x.toInt / y.toInt * y.toInt = y.toInt * (x.toInt / y.toInt) := Int.mul_comm _ _
  have hp : 0 ≤ x.toInt / y.toInt * y.toInt := Int.mul_nonneg h5 (by omega)
  have hm := vg_lmul (x := x / y) (y := y) (v := x / y * y) rfl (by rw [hd]; omega) (by rw [hd]; omega)
  rw [hd] at hm
  have hs := vg_lsub (x := x) (y := x / y * y) rfl (by rw [hm]; omega) (by rw [hm]; omega)
  rw [hs, hm]
  omega
theorem lg_cmp_0 {x y : Int64} : (lg_cmp x y).toInt = 0 ↔ x = y := by
  unfold lg_cmp
  split
  · rename_i h
    refine ⟨fun q => absurd q (by decide), fun q => ?_⟩
    rw [q] at h
    exact absurd h Int64.lt_irrefl
  · split
    · rename_i h
      exact ⟨fun _ => h, fun _ => by decide⟩
    · rename_i h
      exact ⟨fun q => absurd q (by decide), fun q => absurd q h⟩
theorem vr_rm_0 {x : Int64} {r : Int32} (hx : 0 ≤ x.toInt) (hx2 : x.toInt ≤ 4000000000) (hr : 0 < r.toInt) : vr_rm x r = 0 ↔ x.toInt % r.toInt = 0 := by
  have hr2 : r.toInt64.toInt = r.toInt := Int32.toInt_toInt64 r
  have h := vg_lrem (x := x) (y := r.toInt64) hx hx2 (by omega)
  rw [hr2] at h
  have h0 : (Int64.ofNat 0).toInt = 0 := by decide
  unfold vr_rm
  rw [lg_cmp_0]
  constructor
  · intro q
    rw [← h, q, h0]
  · intro q
    apply Int64.toInt_inj.mp
    rw [h, q, h0]
theorem vr_od_0 {x : Int64} (hx : 0 ≤ x.toInt) (hx2 : x.toInt ≤ 4000000000) : vr_od x = 0 ↔ x.toInt % 2 = 1 := by
  have h2 : (Int64.ofInt 2).toInt = 2 := by decide
  have h := vg_lrem (x := x) (y := Int64.ofInt 2) hx hx2 (by omega)
  rw [h2] at h
  have h1 : (Int64.ofNat 1).toInt = 1 := by decide
  unfold vr_od
  rw [lg_cmp_0]
  constructor
  · intro q
    rw [← h, q, h1]
  · intro q
    apply Int64.toInt_inj.mp
    rw [h, q, h1]
def vm (r : Int) (R : Nat → Int64) : Nat → Int32 := fun i => if i < 7 then (R i).toInt32 else if i = 7 then Int32.ofInt ((R 7).toInt % r) else if i ≤ 10 then Int32.ofInt ((R i).toInt % 2) else 0
def vkb (K : Int) (R : Nat → Int64) : Prop := ∀ q : Nat, 7 ≤ q → q ≤ 10 → 0 ≤ (R q).toInt ∧ (R q).toInt ≤ K
theorem vi_of {x : Int} (h1 : 0 ≤ x) (h2 : x ≤ 1000) : (Int32.ofInt x).toInt = x := by
  rw [Int32.toInt_ofInt, show Int32.size = 4294967296 from rfl]
  simp only [Int.bmod]
  omega
theorem kset_ne {α : Type} {C : Nat → α} {i j : Nat} {x : α} (h : ¬ j = i) : kset C i x j = C j := if_neg h
theorem vm_lo {r : Int} {R : Nat → Int64} {i : Nat} (h : i < 7) : vm r R i = (R i).toInt32 := if_pos h
theorem vm_7 {r : Int} {R : Nat → Int64} : vm r R 7 = Int32.ofInt ((R 7).toInt % r) := by rw [vm, if_neg (by omega), if_pos rfl]
theorem vm_hi {r : Int} {R : Nat → Int64} {i : Nat} (h : 8 ≤ i) (h2 : i ≤ 10) : vm r R i = Int32.ofInt ((R i).toInt % 2) := by rw [vm, if_neg (by omega), if_neg (by omega), if_pos h2]
theorem vm_no {r : Int} {R : Nat → Int64} {i : Nat} (h : ¬ i ≤ 10) : vm r R i = 0 := by rw [vm, if_neg (by omega), if_neg (by omega), if_neg h]
theorem vm_set {r : Int} {R : Nat → Int64} {q : Nat} {x : Int64} (hq : q ≤ 10) : vm r (kset R q x) = kset (vm r R) q (vm r (kset R q x) q) := by
  funext i
  by_cases h : i = q
  · rw [h]
    simp only [kset]
    rw [if_pos trivial]
  · rw [kset_ne h]
    by_cases h1 : i < 7
    · rw [vm_lo h1, vm_lo h1, kset_ne h]
    · by_cases h2 : i = 7
      · subst h2
        rw [vm_7, vm_7, kset_ne h]
      · by_cases h3 : i ≤ 10
        · rw [vm_hi (by omega) h3, vm_hi (by omega) h3, kset_ne h]
        · rw [vm_no h3, vm_no h3]
theorem vm_bg {r st : Int} {R : Nat → Int64} : vm r (kb2 (Int64.ofNat 0) st 3 R) = kb2 (Int32.ofInt 0) st 3 (vm r R) := by
  have z0 : (Int64.ofNat 0).toInt = 0 := by decide
  funext i
  by_cases hc : (i < 7 ∧ st ≤ (i : Int)) ∨ (i = 7 ∧ st ≤ 3) ∨ (8 ≤ i ∧ i ≤ 10 ∧ (i : Int) < 8 + 3 ∧ st + 4 ≤ (i : Int))
  · have e1 : kb2 (Int32.ofInt 0) st 3 (vm r R) i = Int32.ofInt 0 := if_pos hc
    have e2 : kb2 (Int64.ofNat 0) st 3 R i = Int64.ofNat 0 := if_pos hc
    rw [e1]
    by_cases h1 : i < 7
    · rw [vm_lo h1, e2]
      rfl
    · by_cases h2 : i = 7
      · subst h2
        rw [vm_7, e2, z0, Int.zero_emod]
      · rw [vm_hi (by omega) (by omega), e2, z0]
        rfl
  · have e1 : kb2 (Int32.ofInt 0) st 3 (vm r R) i = vm r R i := if_neg hc
    have e2 : kb2 (Int64.ofNat 0) st 3 R i = R i := if_neg hc
    rw [e1]
    by_cases h1 : i < 7
    · rw [vm_lo h1, vm_lo h1, e2]
    · by_cases h2 : i = 7
      · subst h2
        rw [vm_7, vm_7, e2]
      · by_cases h3 : i ≤ 10
        · rw [vm_hi (by omega) h3, vm_hi (by omega) h3, e2]
        · rw [vm_no h3, vm_no h3]
theorem vm_bg3 {r r' st : Int} {R : Nat → Int64} (h : st ≤ 3) : kb2 (Int32.ofInt 0) st 3 (vm r R) = kb2 (Int32.ofInt 0) st 3 (vm r' R) := by
  funext i
  simp only [kb2]
  split
  · rfl
  · rename_i hc
    by_cases h1 : i < 7
    · rw [vm_lo h1, vm_lo h1]
    · by_cases h2 : i = 7
      · exact absurd (Or.inr (Or.inl ⟨h2, h⟩)) hc
      · by_cases h3 : i ≤ 10
        · rw [vm_hi (by omega) h3, vm_hi (by omega) h3]
        · rw [vm_no h3, vm_no h3]
theorem vkb_bg {K K' st : Int} {R : Nat → Int64} (h : vkb K R) (hK : K ≤ K') (h0 : 0 ≤ K') : vkb K' (kb2 (Int64.ofNat 0) st 3 R) := fun q h1 h2 => by
  have z0 : (Int64.ofNat 0).toInt = 0 := by decide
  have h3 := h q h1 h2
  simp only [kb2]
  split
  · omega
  · omega
theorem vkb_le {K K' : Int} {R : Nat → Int64} (h : vkb K R) (hK : K ≤ K') : vkb K' R := fun q h1 h2 => by
  have h3 := h q h1 h2
  omega
theorem vr_inc_at {R : Nat → Int64} {q : Nat} : vr_inc R q q = R q + Int64.ofNat 1 := by simp only [vr_inc, kset, if_true]
theorem vm_inc {r : Int} {R : Nat → Int64} {q : Nat} (hq : q < 7) : vk_inc (vm r R) q = vm r (vr_inc R q) := by
  rw [vr_inc, vm_set (by omega), vk_inc]
  congr 1
  rw [vm_lo hq, vm_lo hq]
  show _ = (kset R q (R q + Int64.ofNat 1) q).toInt32
  simp only [kset, if_true]
  rw [Int64.toInt32_add]
  rfl
theorem vr_add1 {x : Int64} (h : 0 ≤ x.toInt ∧ x.toInt ≤ 4000000000) : (x + Int64.ofNat 1).toInt = x.toInt + 1 := by
  have h1 : (Int64.ofNat 1).toInt = 1 := by decide
  have := vg_ladd (x := x) (y := Int64.ofNat 1) rfl (by omega) (by omega)
  omega
theorem vm_fl {r : Int} {R : Nat → Int64} {q : Nat} (h8 : 8 ≤ q) (h10 : q ≤ 10) (hb : 0 ≤ (R q).toInt ∧ (R q).toInt ≤ 3000000000) : kset (vm r R) q (vk_fl (vm r R q)) = vm r (vr_inc R q) ∧ ((vm r R q).toInt = 0 ↔ vr_od (vr_inc R q q) = 0) := by
  have e := vr_add1 (x := R q) (by omega)
  have hm : (vm r R q).toInt = (R q).toInt % 2 := by
    rw [vm_hi h8 h10]
    exact vi_of (by omega) (by omega)
  constructor
  · rw [vr_inc, vm_set (by omega)]
    congr 1
    rw [vm_hi (R := kset R q _) h8 h10]
    show _ = Int32.ofInt ((kset R q (R q + Int64.ofNat 1) q).toInt % 2)
    simp only [kset, if_true]
    rw [e, vk_fl, hm]
    split
    · rw [show ((R q).toInt + 1) % 2 = 1 by omega]
    · rw [show ((R q).toInt + 1) % 2 = 0 by omega]
  · rw [hm, vr_inc_at, vr_od_0 (by omega) (by omega), e]
    omega
theorem vm_emod {x r : Int} (hr : 0 < r) (hx : 0 ≤ x) : ((x + 1) % r = 0 ∧ x % r = r - 1) ∨ ((x + 1) % r = x % r + 1 ∧ x % r + 1 < r) := by
  have h1 := Int.emod_nonneg x (show r ≠ 0 by omega)
  have h2 := Int.emod_lt_of_pos x hr
  have h3 := Int.emod_add_mul_ediv x r
  by_cases h : x % r = r - 1
  · refine Or.inl ⟨?_, h⟩
    have h4 : x + 1 = r * (x / r + 1) := by
      rw [Int.mul_add, Int.mul_one]
      omega
    rw [h4, Int.mul_emod_right]
  · refine Or.inr ⟨?_, by omega⟩
    have h4 : x + 1 = (x % r + 1) + r * (x / r) := by omega
    rw [h4, Int.add_mul_emod_self_left]
    exact Int.emod_eq_of_lt (by omega) (by omega)
theorem vm_tk {r : Int32} {R : Nat → Int64} (hr : 1 ≤ r.toInt ∧ r.toInt ≤ 16) (hb : 0 ≤ (R 7).toInt ∧ (R 7).toInt ≤ 3000000000) : vk_tk r.toInt (vm r.toInt R) = vm r.toInt (vr_inc R 7) ∧ ((vm r.toInt R 7 + Int32.ofInt 1).toInt < r.toInt ↔ ¬ vr_rm (vr_inc R 7 7) r = 0) := by
  have e := vr_add1 (x := R 7) (by omega)
  have z1 : (Int32.ofInt 1).toInt = 1 := by decide
  have hm0 := Int.emod_nonneg (R 7).toInt (show r.toInt ≠ 0 by omega)
  have hm1 := Int.emod_lt_of_pos (R 7).toInt (show 0 < r.toInt by omega)
  have hm : (vm r.toInt R 7).toInt = (R 7).toInt % r.toInt := by
    rw [vm_7]
    exact vi_of (by omega) (by omega)
  have ha := vg_add (x := vm r.toInt R 7) (y := Int32.ofInt 1) rfl (by omega) (by omega)
  have hc := vm_emod (x := (R 7).toInt) (r := r.toInt) (by omega) (by omega)
  have h2 : vm r.toInt (vr_inc R 7) 7 = Int32.ofInt (((R 7).toInt + 1) % r.toInt) := by
    rw [vm_7, vr_inc_at, e]
  have h4 := vm_set (r := r.toInt) (R := R) (q := 7) (x := R 7 + Int64.ofNat 1) (by omega)
  constructor
  · rw [vk_tk]
    by_cases hlt : (vm r.toInt R 7 + Int32.ofInt 1).toInt < r.toInt
    · rw [if_pos hlt, vk_inc]
      have h3 : vm r.toInt R 7 + Int32.ofInt 1 = vm r.toInt (vr_inc R 7) 7 := by
        rw [h2]
        apply vg_eqi
        rw [vi_of (by omega) (by omega)]
        omega
      rw [h3, vr_inc]
      exact h4.symm
    · rw [if_neg hlt]
      have h3 : Int32.ofInt 0 = vm r.toInt (vr_inc R 7) 7 := by
        rw [h2, show ((R 7).toInt + 1) % r.toInt = 0 by omega]
      rw [h3, vr_inc]
      exact h4.symm
  · rw [vr_inc_at, vr_rm_0 (by omega) (by omega) (by omega), e]
    omega
theorem vkb_inc {K : Int} {R : Nat → Int64} {q : Nat} (h : vkb K R) (hq : q < 7) : vkb K (vr_inc R q) := fun i h1 h2 => by
  have h3 := h i h1 h2
  simp only [vr_inc, kset]
  rw [if_neg (by omega)]
  exact h3
/-- 7 to 10 by one at most, each once -/
def vkc (K : Int) (n : Nat) (R : Nat → Int64) : Prop := ∀ q : Nat, 7 ≤ q → q ≤ 10 → 0 ≤ (R q).toInt ∧ (R q).toInt ≤ K + 1 ∧ (n ≤ q → (R q).toInt ≤ K)
theorem vkc_inc {K : Int} {R : Nat → Int64} {n : Nat} (h : vkc K n R) (hn : 7 ≤ n ∧ n ≤ 10) (hK : K ≤ 2000000000) : vkc K (n + 1) (vr_inc R n) := fun q h1 h2 => by
  have h3 := h q h1 h2
  by_cases hq : q = n
  · subst hq
    rw [vr_inc_at, vr_add1 (by omega)]
    omega
  · simp only [vr_inc, kset]
    rw [if_neg hq]
    omega
theorem vkc_lo {K : Int} {R : Nat → Int64} {n q : Nat} (h : vkc K n R) (hq : q < 7) : vkc K n (vr_inc R q) := fun i h1 h2 => by
  have h3 := h i h1 h2
  simp only [vr_inc, kset]
  rw [if_neg (by omega)]
  exact h3
theorem vm_ff {r m K : Int} (hK : K ≤ 2000000000) : ∀ (n : Nat) (R : Nat → Int64), n ≤ 3 → vkc K (11 - n) R → vk_ff m n (vm r R) = vm r (vr_ff m n R) ∧ vkb (K + 1) (vr_ff m n R)
  | 0, R, _, h => ⟨rfl, fun q h1 h2 => by have h3 := h q h1 h2; simp only [vr_ff]; omega⟩
  | n + 1, R, hn, h => by
    have hb := h (10 - n) (by omega) (by omega)
    obtain ⟨f1, f2⟩ := vm_fl (r := r) (R := R) (q := 10 - n) (by omega) (by omega) (by omega)
    rw [vk_ff, vr_ff]
    by_cases hm : ((2 - n : Nat) : Int) < m
    · rw [if_pos hm, if_pos hm, f1]
      have hc := vkc_inc (n := 10 - n) (by rw [show 11 - (n + 1) = 10 - n by omega] at h; exact h) (by omega) hK
      by_cases ho : vr_od (vr_inc R (10 - n) (10 - n)) = 0
      · rw [if_pos ho, if_pos (f2.mpr ho)]
        exact ⟨rfl, fun q h1 h2 => by have h3 := hc q h1 h2; omega⟩
      · rw [if_neg ho, if_neg (fun q => ho (f2.mp q)), vm_inc (by omega)]
        exact vm_ff hK n _ (by omega) (vkc_lo (by rw [show 11 - n = 10 - n + 1 by omega]; exact hc) (by omega))
    · rw [if_neg hm, if_neg hm]
      exact ⟨rfl, fun q h1 h2 => by have h3 := h q h1 h2; omega⟩
theorem vm_step {r : Int32} {m K : Int} {R : Nat → Int64} (hr : 1 ≤ r.toInt ∧ r.toInt ≤ 16) (hK : K ≤ 2000000000) (h : vkb K R) : vk_step r.toInt m (vm r.toInt R) = vm r.toInt (vr_step r m R) ∧ vkb (K + 1) (vr_step r m R) := by
  rw [vk_step, vr_step, vm_inc (by omega), vm_inc (by omega), vm_inc (by omega)]
  have h3 := vkb_inc (q := 2) (vkb_inc (q := 1) (vkb_inc (q := 0) h (by omega)) (by omega)) (by omega)
  generalize vr_inc (vr_inc (vr_inc R 0) 1) 2 = R3 at h3
  have h7 := h3 7 (by omega) (by omega)
  obtain ⟨t1, t2⟩ := vm_tk (R := R3) hr (by omega)
  have hc : vkc K 8 (vr_inc R3 7) := vkc_inc (n := 7) (fun q h1 h2 => by have h4 := h3 q h1 h2; omega) (by omega) hK
  rw [vk_comb, vr_comb, t1, vr_tk]
  by_cases ho : vr_rm (vr_inc R3 7 7) r = 0
  · rw [if_pos ho, if_pos ho, if_neg (fun q => t2.mp q ho), vm_inc (by omega)]
    exact vm_ff hK 3 _ (by omega) (vkc_lo hc (by omega))
  · rw [if_neg ho, if_neg ho, if_pos (t2.mpr ho)]
    exact ⟨rfl, fun q h1 h2 => by have h4 := hc q h1 h2; omega⟩
theorem vm_it {r : Int32} {m : Int} (hr : 1 ≤ r.toInt ∧ r.toInt ≤ 16) : ∀ (n : Nat) (K : Int) (R : Nat → Int64), K + (n : Int) ≤ 2000000000 → vkb K R → vk_it r.toInt m n (vm r.toInt R) = vm r.toInt (vr_it r m n R) ∧ vkb (K + (n : Int)) (vr_it r m n R)
  | 0, K, R, _, h => ⟨rfl, vkb_le h (by omega)⟩
  | n + 1, K, R, hK, h => by
    obtain ⟨h1, h2⟩ := vm_it hr n K R (by omega) h
    rw [vk_it, vr_it, h1]
    obtain ⟨h3, h4⟩ := vm_step (m := m) hr (by omega) h2
    exact ⟨h3, vkb_le h4 (by omega)⟩
/-! work -/
theorem vg_cnt_mh {g : Nat → Int32} {v k : Int32} {a : Nat} (h : v = vg_cnt g (min k.toInt.toNat a)) (hk : k.toInt = ((a / 2 + 1 : Nat) : Int) ∧ a / 2 + 1 ≤ a) : v = vg_cnt g (a / 2 + 1) := by
  rw [h, show min k.toInt.toNat a = a / 2 + 1 by omega]
def vg_fk (σ : vg_S) (a : Int32) : Int32 := if a.toInt = 0 then σ.1 35 0 else if a.toInt = 1 then σ.1 37 0 else σ.1 39 0
theorem vg_fk_0 {σ : vg_S} {a : Int32} (h : a.toInt = 0) : vg_fk σ a = σ.1 35 0 := by rw [vg_fk, if_pos h]
theorem vg_fk_1 {σ : vg_S} {a : Int32} (h : a.toInt = 1) : vg_fk σ a = σ.1 37 0 := by rw [vg_fk, if_neg (by omega), if_pos h]
theorem vg_fk_2 {σ : vg_S} {a : Int32} (h : ¬ a.toInt = 0) (h1 : ¬ a.toInt = 1) : vg_fk σ a = σ.1 39 0 := by rw [vg_fk, if_neg h, if_neg h1]
def vg_each (w : Int32) (g : Nat → Int32) (n : Nat) : Int32 := if w.toInt = 0 then vg_cnt g n else vg_cnt g (n / 2 + 1)
theorem vg_each_0 {w : Int32} {g : Nat → Int32} {n : Nat} (h : w.toInt = 0) : vg_each w g n = vg_cnt g n := by rw [vg_each, if_pos h]
theorem vg_each_1 {w : Int32} {g : Nat → Int32} {n : Nat} (h : ¬ w.toInt = 0) : vg_each w g n = vg_cnt g (n / 2 + 1) := by rw [vg_each, if_neg h]
def vg_eachr (w : Int32) (g : Nat → Int32) (n : Nat) : Int32 := if w.toInt = 0 then vg_cnt g n else (vg_cnt g n + Int32.ofInt 1) / Int32.ofInt 2
theorem vg_eachr_0 {w : Int32} {g : Nat → Int32} {n : Nat} (h : w.toInt = 0) : vg_eachr w g n = vg_cnt g n := by rw [vg_eachr, if_pos h]
theorem vg_eachr_1 {w : Int32} {g : Nat → Int32} {n : Nat} (h : ¬ w.toInt = 0) : vg_eachr w g n = (vg_cnt g n + Int32.ofInt 1) / Int32.ofInt 2 := by rw [vg_eachr, if_neg h]
theorem vk_wkm {s : vg_S} {a v : Int32} {k i q : Nat} (e : v = s.1 k i) (h : vk_pl q = (k, i) ∧ q < 11) (ha : (q : Int) = 4 + a.toInt) (h0 : 0 ≤ a.toInt) : v = (vk s).1 (4 + a.toNatClampNeg) := by
  have h1 : a.toNatClampNeg = a.toInt.toNat := rfl
  rw [e, show 4 + a.toNatClampNeg = q by omega]
  exact (vk_at rfl h).symm
theorem vr_wkm {s : vg_S} {a ix v : Int32} (e : v = (s.2 56 ix.toNatClampNeg).toInt32) (h : ix.toInt = 20 + a.toInt) (ha : 0 ≤ a.toInt ∧ a.toInt ≤ 2) : v = ((vk s).2 (4 + a.toNatClampNeg)).toInt32 := by
  have e1 : a.toNatClampNeg = a.toInt.toNat := rfl
  rw [e, vk_ar (q := 4 + a.toNatClampNeg) (s := s) (x := s.2 56 ix.toNatClampNeg) rfl rfl (by omega)]
theorem vg_sym7 {g : Nat → Int32} (h4 : g 4 = g 2) (h5 : g 5 = g 1) (h6 : g 6 = g 0) : vg_cnt g 4 = (vg_cnt g 7 + Int32.ofInt 1) / Int32.ofInt 2 := by
  simp only [vg_cnt, h4, h5, h6]
  by_cases a : (g 0).toInt = 0 <;> by_cases b : (g 1).toInt = 0 <;> by_cases c : (g 2).toInt = 0 <;> by_cases d : (g 3).toInt = 0 <;> simp only [a, b, c, d, if_true, if_false] <;> decide
theorem vg_symt {f : Nat → Int32} {K : Int32} : vg_cnt (vg_tp f K) (vg_tn K / 2 + 1) = (vg_cnt (vg_tp f K) (vg_tn K) + Int32.ofInt 1) / Int32.ofInt 2 := by
  by_cases h0 : K.toInt = 0
  · rw [vg_tn_0 h0, vg_cnt_congr (f := vg_tp f K) (g := fun j => ([1, 2, 1] : List Int32).getD j 0) (n := 3 / 2 + 1) (fun j _ => vg_tp_0 h0), vg_cnt_congr (f := vg_tp f K) (g := fun j => ([1, 2, 1] : List Int32).getD j 0) (n := 3) (fun j _ => vg_tp_0 h0)]
    decide
  · by_cases h2 : K.toInt = 2
    · rw [vg_tn_2 h2, vg_cnt_congr (f := vg_tp f K) (g := fun j => ([3, 0, -25, 0, 150, 256, 150, 0, -25, 0, 3] : List Int32).getD j 0) (n := 11 / 2 + 1) (fun j _ => vg_tp_2 h2), vg_cnt_congr (f := vg_tp f K) (g := fun j => ([3, 0, -25, 0, 150, 256, 150, 0, -25, 0, 3] : List Int32).getD j 0) (n := 11) (fun j _ => vg_tp_2 h2)]
      decide
    · rw [vg_tn_x h0 h2]
      by_cases h1 : K.toInt = 1
      · refine vg_sym7 ?_ ?_ ?_ <;> rw [vg_tp_1 h1, vg_tp_1 h1] <;> rfl
      · refine vg_sym7 ?_ ?_ ?_ <;> rw [vg_tp_3 h0 h1 h2, vg_tp_3 h0 h1 h2] <;> rfl
end
