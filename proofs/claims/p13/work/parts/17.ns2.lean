def o_X10_greatestGapOf : List vg_I := [(0, .lconst 0, 1, 0, 0, 0, 0), (1, .lstore_n 2, 1, 0, 0, 0, 0), (2, .iconst 0, 1, 0, 0, 0, 0), (3, .istore 4, 2, 0, 0, 0, 0), (5, .iload 4, 2, 0, 0, 0, 0), (7, .iload_n 1, 1, 0, 0, 0, 0), (8, .iadd, 1, 0, 0, 0, 0), (9, .aload_n 0, 1, 0, 0, 0, 0), (10, .invokevirtual 265, 3, 0, 10, 0, 809), (13, .if_icmp .gt 80, 3, 0, 0, 0, 0), (16, .lconst 0, 1, 0, 0, 0, 0), (17, .lstore 5, 2, 0, 0, 0, 0), (19, .iload 4, 2, 0, 0, 0, 0), (21, .istore 7, 2, 0, 0, 0, 0), (23, .iload 7, 2, 0, 0, 0, 0), (25, .iload 4, 2, 0, 0, 0, 0), (27, .iload_n 1, 1, 0, 0, 0, 0), (28, .iadd, 1, 0, 0, 0, 0), (29, .if_icmp .ge 48, 3, 0, 0, 0, 0), (32, .lload 5, 2, 0, 0, 0, 0), (34, .aload_n 0, 1, 0, 0, 0, 0), (35, .getfield 19, 3, 431, 10, 4, 0), (38, .getfield 127, 3, 179, 5, 0, 0), (41, .aload_n 0, 1, 0, 0, 0, 0), (42, .getfield 52, 3, 436, 10, 9, 0), (45, .iconst 1, 1, 0, 0, 0, 0), (46, .aaload, 1, 0, 0, 0, 0), (47, .iload 7, 2, 0, 0, 0, 0), (49, .invokevirtual 213, 3, 1, 4, 1, 788), (52, .invokevirtual 437, 3, 2, 6, 1, 818), (55, .aload_n 0, 1, 0, 0, 0, 0), (56, .getfield 52, 3, 436, 10, 9, 0), (59, .iconst 0, 1, 0, 0, 0, 0), (60, .aaload, 1, 0, 0, 0, 0), (61, .iload 7, 2, 0, 0, 0, 0), (63, .invokevirtual 213, 3, 1, 4, 1, 788), (66, .isub, 1, 0, 0, 0, 0), (67, .i2l, 1, 0, 0, 0, 0), (68, .ladd, 1, 0, 0, 0, 0), (69, .lstore 5, 2, 0, 0, 0, 0), (71, .iinc 7 1, 3, 0, 0, 0, 0), (74, .goto (-51), 3, 0, 0, 0, 0), (77, .lload_n 2, 1, 0, 0, 0, 0), (78, .lload 5, 2, 0, 0, 0, 0), (80, .invokestatic 440, 3, 3, 1, 1, 819), (83, .invokestatic 443, 3, 4, 1, 2, 820), (86, .lstore_n 2, 1, 0, 0, 0, 0), (87, .iinc 4 1, 3, 0, 0, 0, 0), (90, .goto (-85), 3, 0, 0, 0, 0), (93, .lload_n 2, 1, 0, 0, 0, 0), (94, .lreturn, 1, 0, 0, 0, 0)]
set_option maxRecDepth 100000 in
set_option maxHeartbeats 4000000 in
theorem c_X10_greatestGapOf (l : Launch) (G : vg_G) (hp : vg_Hp G) : vg_Ct l G vg_sh r_X10_greatestGapOf := by
  refine vg_meth hp vg_sh_ok r_X10_greatestGapOf k_X10_greatestGapOf rfl (fun h => by cases h) o_X10_greatestGapOf [r_X10_keptByLoop, r_X4_get, r_X6_valueOf, r_J9_abs_067f4, r_J9_max_f86c9] false (by decide +kernel) (by decide +kernel) ⟨_, _, rfl, rfl⟩ (List.forall_mem_cons.mpr ⟨⟨c_X10_keptByLoop l G hp, Nat.le_of_ble_eq_true rfl, Nat.le_of_ble_eq_true rfl⟩, List.forall_mem_cons.mpr ⟨⟨c_X4_get l G hp, Nat.le_of_ble_eq_true rfl, Nat.le_of_ble_eq_true rfl⟩, List.forall_mem_cons.mpr ⟨⟨c_X6_valueOf l G hp, Nat.le_of_ble_eq_true rfl, Nat.le_of_ble_eq_true rfl⟩, List.forall_mem_cons.mpr ⟨⟨c_J9_abs_067f4 l G hp, Nat.le_of_ble_eq_true rfl, Nat.le_of_ble_eq_true rfl⟩, List.forall_mem_cons.mpr ⟨⟨c_J9_max_f86c9 l G hp, Nat.le_of_ble_eq_true rfl, Nat.le_of_ble_eq_true rfl⟩, fun _ h => absurd h List.not_mem_nil⟩⟩⟩⟩⟩) (fun h => by cases h) 600 ?_
  intro as s0 hpre
  obtain ⟨r, a1, rfl, hr, i0, p0⟩ := hpre
  simp only [List.mem_cons, List.not_mem_nil, or_false] at hr
  rcases hr with rfl
  ·
    have z0 : (Int32.ofInt 0).toInt = 0 := by decide
    have z1 : (Int32.ofInt 1).toInt = 1 := by decide
    refine ⟨Nat.le_of_ble_eq_true rfl, [(5, [true, true, true, false, true, false, false, false], (fun L t => ∃ (x2 : Int64) (x4 : Int32), L = [some (.ref 0), some (.int a1), some (.long x2), none, some (.int x4), none, none, none] ∧ (0 : Int) ≤ x4.toInt ∧ x4.toInt ≤ (49 : Int) ∧ t = s0), (fun L _ => ((49 - (vg_li L 4).toInt) * 1000).toNat)), (23, [true, true, true, false, true, true, false, true], (fun L t => ∃ (x2 : Int64) (x4 : Int32) (x5 : Int64) (x7 : Int32), L = [some (.ref 0), some (.int a1), some (.long x2), none, some (.int x4), some (.long x5), none, some (.int x7)] ∧ (0 : Int) ≤ x4.toInt ∧ x4.toInt ≤ (47 : Int) ∧ (0 : Int) ≤ x7.toInt ∧ x7.toInt ≤ (100 : Int) ∧ t = s0), (fun L _ => ((49 - (vg_li L 4).toInt) * 1000 - 1000 + (100 - (vg_li L 7).toInt) + 1).toNat))], ?_, List.forall_mem_cons.mpr ⟨?_, List.forall_mem_cons.mpr ⟨?_, fun _ h => absurd h List.not_mem_nil⟩⟩⟩
    ·
      exact ⟨rfl, ⟨(Int64.ofNat 0), (Int32.ofInt 0), rfl, (by omega), (by omega), rfl⟩, trivial⟩
    ·
      intro L s5 hL
      obtain ⟨w1, w2, rfl, b3, b4, q8⟩ := hL
      have q8 := q8.symm
      subst q8
      intro v9 e10
      have b11 := vg_add e10 (by omega) (by omega)
      refine And.intro (Nat.le_of_ble_eq_true rfl) (And.intro ⟨0, rfl, by decide, i0⟩ ?_)
      intro v12 s14 h13
      have h13 : s14 = s0 ∧ (0 ≤ v12.toInt ∧ v12.toInt ≤ 48) := h13
      have q17 := h13.1.symm
      subst q17
      have q18 := h13.2
      refine And.intro (fun c19 => ?_) (fun c19 => ?_)
      · have c19 : v12.toInt < v9.toInt := c19
        show s0 = s0 ∧ (True)
        exact ⟨rfl, (trivial)⟩
      · have c19 : ¬ (v12.toInt < v9.toInt) := c19
        exact ⟨rfl, ⟨w1, w2, (Int64.ofNat 0), w2, rfl, (by omega), (by omega), (by omega), (by omega), rfl⟩, (by show ((49 - w2.toInt) * 1000 - 1000 + (100 - w2.toInt) + 1).toNat < ((49 - w2.toInt) * 1000).toNat; omega)⟩
    ·
      intro L s28 hL
      obtain ⟨w20, w21, w24, w25, rfl, b22, b23, b26, b27, q31⟩ := hL
      have q31 := q31.symm
      subst q31
      intro v32 e33
      have b34 := vg_add e33 (by omega) (by omega)
      refine And.intro (fun c35 => ?_) (fun c35 => ?_)
      · have c35 : v32.toInt ≤ w25.toInt := c35
        refine And.intro (Nat.le_of_ble_eq_true rfl) (And.intro ⟨w24, rfl, trivial⟩ ?_)
        intro v36 s38 h37
        have h37 : s38 = s0 ∧ (True) := h37
        have q41 := h37.1.symm
        subst q41
        refine And.intro (Nat.le_of_ble_eq_true rfl) (And.intro ⟨w20, v36, rfl, trivial⟩ ?_)
        intro v42 s44 h43
        have h43 : s44 = s0 ∧ (True) := h43
        have q47 := h43.1.symm
        subst q47
        intro v48 e49
        have b50 := vg_add e49 (by omega) (by omega)
        exact ⟨rfl, ⟨v42, v48, rfl, (by omega), (by omega), rfl⟩, (by show ((49 - v48.toInt) * 1000).toNat < ((49 - w21.toInt) * 1000 - 1000 + (100 - w25.toInt) + 1).toNat; omega)⟩
      · have c35 : ¬ (v32.toInt ≤ w25.toInt) := c35
        refine And.intro rfl (And.intro ⟨by omega, by omega⟩ ?_)
        refine And.intro (fun c51 => ?_) ?_
        · have c51 : (Int32.ofInt 1).toInt = (0) := c51
          exfalso
          omega
        refine And.intro (fun c52 => ?_) ?_
        · have c52 : (Int32.ofInt 1).toInt = (1) := c52
          refine And.intro (Nat.le_of_ble_eq_true rfl) (And.intro ⟨43, w25, rfl, by decide, i0⟩ ?_)
          intro v53 s55 h54
          have h54 : s55 = s0 ∧ (True) := h54
          have q58 := h54.1.symm
          subst q58
          refine And.intro (Nat.le_of_ble_eq_true rfl) (And.intro ⟨4, v53, rfl, by decide, i0⟩ ?_)
          intro v59 s61 h60
          have h60 : s61 = s0 ∧ (True) := h60
          have q64 := h60.1.symm
          subst q64
          refine And.intro rfl (And.intro ⟨by omega, by omega⟩ ?_)
          refine And.intro (fun c65 => ?_) ?_
          · have c65 : (Int32.ofInt 0).toInt = (0) := c65
            refine And.intro (Nat.le_of_ble_eq_true rfl) (And.intro ⟨41, w25, rfl, by decide, i0⟩ ?_)
            intro v66 s68 h67
            have h67 : s68 = s0 ∧ (True) := h67
            have q71 := h67.1.symm
            subst q71
            intro v72 e73
            intro v74 e75
            intro v76 e77
            intro v78 e79
            have b80 := vg_add e79 (by omega) (by omega)
            exact ⟨rfl, ⟨w20, w21, v76, v78, rfl, (by omega), (by omega), (by omega), (by omega), rfl⟩, (by show ((49 - w21.toInt) * 1000 - 1000 + (100 - v78.toInt) + 1).toNat < ((49 - w21.toInt) * 1000 - 1000 + (100 - w25.toInt) + 1).toNat; omega)⟩
          refine And.intro (fun c81 => ?_) ?_
          · have c81 : (Int32.ofInt 0).toInt = (1) := c81
            exfalso
            omega
          refine And.intro (fun c82 => ?_) ?_
          · have c82 : (Int32.ofInt 0).toInt = (2) := c82
            exfalso
            omega
          refine And.intro (fun c83 => ?_) ?_
          · have c83 : (Int32.ofInt 0).toInt = (3) := c83
            exfalso
            omega
          refine And.intro (fun c84 => ?_) ?_
          · have c84 : (Int32.ofInt 0).toInt = (4) := c84
            exfalso
            omega
          refine And.intro (fun c85 => ?_) ?_
          · have c85 : (Int32.ofInt 0).toInt = (5) := c85
            exfalso
            omega
          refine And.intro (fun c86 => ?_) ?_
          · have c86 : (Int32.ofInt 0).toInt = (6) := c86
            exfalso
            omega
          exact trivial
        refine And.intro (fun c87 => ?_) ?_
        · have c87 : (Int32.ofInt 1).toInt = (2) := c87
          exfalso
          omega
        refine And.intro (fun c88 => ?_) ?_
        · have c88 : (Int32.ofInt 1).toInt = (3) := c88
          exfalso
          omega
        refine And.intro (fun c89 => ?_) ?_
        · have c89 : (Int32.ofInt 1).toInt = (4) := c89
          exfalso
          omega
        refine And.intro (fun c90 => ?_) ?_
        · have c90 : (Int32.ofInt 1).toInt = (5) := c90
          exfalso
          omega
        refine And.intro (fun c91 => ?_) ?_
        · have c91 : (Int32.ofInt 1).toInt = (6) := c91
          exfalso
          omega
        exact trivial
def o_X10_gap : List vg_I := [(0, .iload_n 1, 1, 0, 0, 0, 0), (1, .iconst 0, 1, 0, 0, 0, 0), (2, .iconst 2, 1, 0, 0, 0, 0), (3, .invokestatic 82, 3, 0, 1, 3, 478), (6, .ifCond .eq 18, 3, 0, 0, 0, 0), (9, .iload_n 1, 1, 0, 0, 0, 0), (10, .iconst 2, 1, 0, 0, 0, 0), (11, .if_icmp .ne 20, 3, 0, 0, 0, 0), (14, .iload_n 2, 1, 0, 0, 0, 0), (15, .iconst 1, 1, 0, 0, 0, 0), (16, .bipush 48, 2, 0, 0, 0, 0), (18, .invokestatic 82, 3, 0, 1, 3, 478), (21, .ifCond .ne 10, 3, 0, 0, 0, 0), (24, .aload_n 0, 1, 0, 0, 0, 0), (25, .iconst 1, 1, 0, 0, 0, 0), (26, .invokevirtual 90, 3, 1, 10, 1, 484), (29, .i2l, 1, 0, 0, 0, 0), (30, .lreturn, 1, 0, 0, 0, 0), (31, .iload_n 1, 1, 0, 0, 0, 0), (32, .ifCond .ne 15, 3, 0, 0, 0, 0), (35, .aload_n 0, 1, 0, 0, 0, 0), (36, .aload_n 0, 1, 0, 0, 0, 0), (37, .getfield 19, 3, 431, 10, 4, 0), (40, .invokevirtual 258, 3, 2, 5, 0, 808), (43, .invokevirtual 239, 3, 3, 10, 1, 800), (46, .lreturn, 1, 0, 0, 0, 0), (47, .iload_n 1, 1, 0, 0, 0, 0), (48, .iconst 1, 1, 0, 0, 0, 0), (49, .if_icmp .ne 15, 3, 0, 0, 0, 0), (52, .aload_n 0, 1, 0, 0, 0, 0), (53, .aload_n 0, 1, 0, 0, 0, 0), (54, .getfield 19, 3, 431, 10, 4, 0), (57, .getfield 262, 3, 203, 5, 13, 0), (60, .invokevirtual 239, 3, 3, 10, 1, 800), (63, .lreturn, 1, 0, 0, 0, 0), (64, .iload_n 2, 1, 0, 0, 0, 0), (65, .aload_n 0, 1, 0, 0, 0, 0), (66, .invokevirtual 265, 3, 4, 10, 0, 809), (69, .if_icmp .le 10, 3, 0, 0, 0, 0), (72, .aload_n 0, 1, 0, 0, 0, 0), (73, .iconst 5, 1, 0, 0, 0, 0), (74, .invokevirtual 90, 3, 1, 10, 1, 484), (77, .i2l, 1, 0, 0, 0, 0), (78, .lreturn, 1, 0, 0, 0, 0), (79, .aload_n 0, 1, 0, 0, 0, 0), (80, .aload_n 0, 1, 0, 0, 0, 0), (81, .iload_n 2, 1, 0, 0, 0, 0), (82, .invokevirtual 268, 3, 5, 10, 1, 814), (85, .invokevirtual 239, 3, 3, 10, 1, 800), (88, .lreturn, 1, 0, 0, 0, 0)]
set_option maxRecDepth 100000 in
set_option maxHeartbeats 4000000 in
theorem c_X10_gap (l : Launch) (G : vg_G) (hp : vg_Hp G) : vg_Ct l G vg_sh r_X10_gap := by
  refine vg_meth hp vg_sh_ok r_X10_gap k_X10_gap rfl (fun h => by cases h) o_X10_gap [r_X10_within, r_X10_refuse, r_X5_gapNow, r_X10_answerLong, r_X10_keptByLoop, r_X10_greatestGapOf] false (by decide +kernel) (by decide +kernel) ⟨_, _, rfl, rfl⟩ (List.forall_mem_cons.mpr ⟨⟨c_X10_within l G hp, Nat.le_of_ble_eq_true rfl, Nat.le_of_ble_eq_true rfl⟩, List.forall_mem_cons.mpr ⟨⟨c_X10_refuse l G hp, Nat.le_of_ble_eq_true rfl, Nat.le_of_ble_eq_true rfl⟩, List.forall_mem_cons.mpr ⟨⟨c_X5_gapNow l G hp, Nat.le_of_ble_eq_true rfl, Nat.le_of_ble_eq_true rfl⟩, List.forall_mem_cons.mpr ⟨⟨c_X10_answerLong l G hp, Nat.le_of_ble_eq_true rfl, Nat.le_of_ble_eq_true rfl⟩, List.forall_mem_cons.mpr ⟨⟨c_X10_keptByLoop l G hp, Nat.le_of_ble_eq_true rfl, Nat.le_of_ble_eq_true rfl⟩, List.forall_mem_cons.mpr ⟨⟨c_X10_greatestGapOf l G hp, Nat.le_of_ble_eq_true rfl, Nat.le_of_ble_eq_true rfl⟩, fun _ h => absurd h List.not_mem_nil⟩⟩⟩⟩⟩⟩) (fun h => by cases h) 600 ?_
  intro as s0 hpre
  obtain ⟨r, a1, a2, rfl, hr, i0⟩ := hpre
  simp only [List.mem_cons, List.not_mem_nil, or_false] at hr
  rcases hr with rfl
  ·
    have z0 : (Int32.ofInt 0).toInt = 0 := by decide
    have z1 : (Int32.ofInt 1).toInt = 1 := by decide
    have z2 : (Int32.ofInt 2).toInt = 2 := by decide
    have z5 : (Int32.ofInt 5).toInt = 5 := by decide
    have z48 : (Int32.ofInt 48).toInt = 48 := by decide
    refine ⟨Nat.le_of_ble_eq_true rfl, [], ?_, fun _ h => absurd h List.not_mem_nil⟩
    ·
      refine And.intro (Nat.le_of_ble_eq_true rfl) (And.intro ⟨a1, (Int32.ofInt 0), (Int32.ofInt 2), rfl, trivial⟩ ?_)
      intro v1 s3 h2
      have h2 : s3 = s0 ∧ ((v1.toInt = 1 ∧ (Int32.ofInt 0).toInt ≤ a1.toInt ∧ a1.toInt ≤ (Int32.ofInt 2).toInt) ∨ (v1.toInt = 0 ∧ (a1.toInt < (Int32.ofInt 0).toInt ∨ (Int32.ofInt 2).toInt < a1.toInt))) := h2
      have q6 := h2.1.symm
      subst q6
      have q7 := h2.2
      refine And.intro (fun c8 => ?_) (fun c8 => ?_)
      · have c8 : v1.toInt = 0 := c8
        refine And.intro (Nat.le_of_ble_eq_true rfl) (And.intro ⟨0, (Int32.ofInt 1), rfl, by decide, i0⟩ ?_)
        intro v9 s11 h10
        have h10 : Iv s11 ∧ Kp s0 s11 ∧ (v9.toInt = -1) := h10
        have i12 := h10.1
        have k13 : Kp s0 s11 := Kx.tr Kx.rf (h10.2.1)
        have q14 := h10.2.2
        intro v15 e16
        show Iv s11 ∧ Kp s0 s11 ∧ (True)
        exact ⟨i12, k13, (trivial)⟩
      · have c8 : ¬ (v1.toInt = 0) := c8
        refine And.intro (fun c17 => ?_) (fun c17 => ?_)
        · have c17 : ¬ a1.toInt = (Int32.ofInt 2).toInt := c17
          refine And.intro (fun c18 => ?_) (fun c18 => ?_)
          · have c18 : ¬ a1.toInt = 0 := c18
            refine And.intro (fun c19 => ?_) (fun c19 => ?_)
            · have c19 : ¬ a1.toInt = (Int32.ofInt 1).toInt := c19
              exfalso
              omega
            · have c19 : ¬ (¬ a1.toInt = (Int32.ofInt 1).toInt) := c19
              intro v20 e21
              refine And.intro (Nat.le_of_ble_eq_true rfl) (And.intro ⟨0, v20, rfl, by decide, i0⟩ ?_)
              intro v22 s24 h23
              have h23 : Iv s24 ∧ Kp s0 s24 ∧ (v22 = v20) := h23
              have i25 := h23.1
              have k26 : Kp s0 s24 := Kx.tr Kx.rf (h23.2.1)
              have q27 := h23.2.2
              show Iv s24 ∧ Kp s0 s24 ∧ (True)
              exact ⟨i25, k26, (trivial)⟩
          · have c18 : ¬ (¬ a1.toInt = 0) := c18
            refine And.intro (Nat.le_of_ble_eq_true rfl) (And.intro ⟨3, rfl, by decide, i0⟩ ?_)
            intro v28 s30 h29
            have h29 : s30 = s0 ∧ (True) := h29
            have q33 := h29.1.symm
            subst q33
            refine And.intro (Nat.le_of_ble_eq_true rfl) (And.intro ⟨0, v28, rfl, by decide, i0⟩ ?_)
            intro v34 s36 h35
            have h35 : Iv s36 ∧ Kp s0 s36 ∧ (v34 = v28) := h35
            have i37 := h35.1
            have k38 : Kp s0 s36 := Kx.tr Kx.rf (h35.2.1)
            have q39 := h35.2.2
            show Iv s36 ∧ Kp s0 s36 ∧ (True)
            exact ⟨i37, k38, (trivial)⟩
        · have c17 : ¬ (¬ a1.toInt = (Int32.ofInt 2).toInt) := c17
          refine And.intro (Nat.le_of_ble_eq_true rfl) (And.intro ⟨a2, (Int32.ofInt 1), (Int32.ofInt 48), rfl, trivial⟩ ?_)
          intro v40 s42 h41
          have h41 : s42 = s0 ∧ ((v40.toInt = 1 ∧ (Int32.ofInt 1).toInt ≤ a2.toInt ∧ a2.toInt ≤ (Int32.ofInt 48).toInt) ∨ (v40.toInt = 0 ∧ (a2.toInt < (Int32.ofInt 1).toInt ∨ (Int32.ofInt 48).toInt < a2.toInt))) := h41
          have q45 := h41.1.symm
          subst q45
          have q46 := h41.2
          refine And.intro (fun c47 => ?_) (fun c47 => ?_)
          · have c47 : ¬ v40.toInt = 0 := c47
            refine And.intro (fun c48 => ?_) (fun c48 => ?_)
            · have c48 : ¬ a1.toInt = 0 := c48
              refine And.intro (fun c49 => ?_) (fun c49 => ?_)
              · have c49 : ¬ a1.toInt = (Int32.ofInt 1).toInt := c49
                refine And.intro (Nat.le_of_ble_eq_true rfl) (And.intro ⟨0, rfl, by decide, i0⟩ ?_)
                intro v50 s52 h51
                have h51 : s52 = s0 ∧ (0 ≤ v50.toInt ∧ v50.toInt ≤ 48) := h51
                have q55 := h51.1.symm
                subst q55
                have q56 := h51.2
                refine And.intro (fun c57 => ?_) (fun c57 => ?_)
                · have c57 : a2.toInt ≤ v50.toInt := c57
                  refine And.intro (Nat.le_of_ble_eq_true rfl) (And.intro ⟨0, a2, rfl, by decide, i0, by omega⟩ ?_)
                  intro v58 s60 h59
                  have h59 : s60 = s0 ∧ (True) := h59
                  have q63 := h59.1.symm
                  subst q63
                  refine And.intro (Nat.le_of_ble_eq_true rfl) (And.intro ⟨0, v58, rfl, by decide, i0⟩ ?_)
                  intro v64 s66 h65
                  have h65 : Iv s66 ∧ Kp s0 s66 ∧ (v64 = v58) := h65
                  have i67 := h65.1
                  have k68 : Kp s0 s66 := Kx.tr Kx.rf (h65.2.1)
                  have q69 := h65.2.2
                  show Iv s66 ∧ Kp s0 s66 ∧ (True)
                  exact ⟨i67, k68, (trivial)⟩
                · have c57 : ¬ (a2.toInt ≤ v50.toInt) := c57
                  refine And.intro (Nat.le_of_ble_eq_true rfl) (And.intro ⟨0, (Int32.ofInt 5), rfl, by decide, i0⟩ ?_)
                  intro v70 s72 h71
                  have h71 : Iv s72 ∧ Kp s0 s72 ∧ (v70.toInt = -1) := h71
                  have i73 := h71.1
                  have k74 : Kp s0 s72 := Kx.tr Kx.rf (h71.2.1)
                  have q75 := h71.2.2
                  intro v76 e77
                  show Iv s72 ∧ Kp s0 s72 ∧ (True)
                  exact ⟨i73, k74, (trivial)⟩
              · have c49 : ¬ (¬ a1.toInt = (Int32.ofInt 1).toInt) := c49
                exfalso
                omega
            · have c48 : ¬ (¬ a1.toInt = 0) := c48
              exfalso
              omega
          · have c47 : ¬ (¬ v40.toInt = 0) := c47
            refine And.intro (Nat.le_of_ble_eq_true rfl) (And.intro ⟨0, (Int32.ofInt 1), rfl, by decide, i0⟩ ?_)
            intro v78 s80 h79
            have h79 : Iv s80 ∧ Kp s0 s80 ∧ (v78.toInt = -1) := h79
            have i81 := h79.1
            have k82 : Kp s0 s80 := Kx.tr Kx.rf (h79.2.1)
            have q83 := h79.2.2
            intro v84 e85
            show Iv s80 ∧ Kp s0 s80 ∧ (True)
            exact ⟨i81, k82, (trivial)⟩
def o_X10_range : List vg_I := [(0, .iload_n 2, 1, 0, 0, 0, 0), (1, .iconst 0, 1, 0, 0, 0, 0), (2, .iconst 2, 1, 0, 0, 0, 0), (3, .invokestatic 82, 3, 0, 1, 3, 478), (6, .ifCond .ne 10, 3, 0, 0, 0, 0), (9, .aload_n 0, 1, 0, 0, 0, 0), (10, .iconst 1, 1, 0, 0, 0, 0), (11, .invokevirtual 90, 3, 1, 10, 1, 484), (14, .i2l, 1, 0, 0, 0, 0), (15, .lreturn, 1, 0, 0, 0, 0), (16, .iload_n 1, 1, 0, 0, 0, 0), (17, .invokestatic 201, 3, 2, 1, 1, 609), (20, .ifCond .ne 10, 3, 0, 0, 0, 0), (23, .aload_n 0, 1, 0, 0, 0, 0), (24, .iconst 2, 1, 0, 0, 0, 0), (25, .invokevirtual 90, 3, 1, 10, 1, 484), (28, .i2l, 1, 0, 0, 0, 0), (29, .lreturn, 1, 0, 0, 0, 0), (30, .aload_n 0, 1, 0, 0, 0, 0), (31, .getfield 52, 3, 436, 10, 9, 0), (34, .iload_n 1, 1, 0, 0, 0, 0), (35, .aaload, 1, 0, 0, 0, 0), (36, .astore_n 3, 1, 0, 0, 0, 0), (37, .aload_n 3, 1, 0, 0, 0, 0), (38, .getfield 210, 3, 415, 4, 2, 0), (41, .ifCond .ne 10, 3, 0, 0, 0, 0), (44, .aload_n 0, 1, 0, 0, 0, 0), (45, .iconst 5, 1, 0, 0, 0, 0), (46, .invokevirtual 90, 3, 1, 10, 1, 484), (49, .i2l, 1, 0, 0, 0, 0), (50, .lreturn, 1, 0, 0, 0, 0), (51, .iload_n 2, 1, 0, 0, 0, 0), (52, .lookupswitch 48 #[(0, 28), (1, 38)], 28, 0, 0, 0, 0), (80, .aload_n 0, 1, 0, 0, 0, 0), (81, .aload_n 3, 1, 0, 0, 0, 0), (82, .invokevirtual 272, 3, 3, 4, 0, 825), (85, .i2l, 1, 0, 0, 0, 0), (86, .invokevirtual 239, 3, 4, 10, 1, 800), (89, .lreturn, 1, 0, 0, 0, 0), (90, .aload_n 0, 1, 0, 0, 0, 0), (91, .aload_n 3, 1, 0, 0, 0, 0), (92, .invokevirtual 275, 3, 5, 4, 0, 830), (95, .i2l, 1, 0, 0, 0, 0), (96, .invokevirtual 239, 3, 4, 10, 1, 800), (99, .lreturn, 1, 0, 0, 0, 0), (100, .aload_n 0, 1, 0, 0, 0, 0), (101, .aload_n 3, 1, 0, 0, 0, 0), (102, .invokevirtual 278, 3, 6, 4, 0, 835), (105, .invokevirtual 239, 3, 4, 10, 1, 800), (108, .lreturn, 1, 0, 0, 0, 0)]
set_option maxRecDepth 100000 in
set_option maxHeartbeats 4000000 in
theorem c_X10_range (l : Launch) (G : vg_G) (hp : vg_Hp G) : vg_Ct l G vg_sh r_X10_range := by
  refine vg_meth hp vg_sh_ok r_X10_range k_X10_range rfl (fun h => by cases h) o_X10_range [r_X10_within, r_X10_refuse, r_X10_isStage, r_X4_least, r_X10_answerLong, r_X4_greatest, r_X4_total] false (by decide +kernel) (by decide +kernel) ⟨_, _, rfl, rfl⟩ (List.forall_mem_cons.mpr ⟨⟨c_X10_within l G hp, Nat.le_of_ble_eq_true rfl, Nat.le_of_ble_eq_true rfl⟩, List.forall_mem_cons.mpr ⟨⟨c_X10_refuse l G hp, Nat.le_of_ble_eq_true rfl, Nat.le_of_ble_eq_true rfl⟩, List.forall_mem_cons.mpr ⟨⟨c_X10_isStage l G hp, Nat.le_of_ble_eq_true rfl, Nat.le_of_ble_eq_true rfl⟩, List.forall_mem_cons.mpr ⟨⟨c_X4_least l G hp, Nat.le_of_ble_eq_true rfl, Nat.le_of_ble_eq_true rfl⟩, List.forall_mem_cons.mpr ⟨⟨c_X10_answerLong l G hp, Nat.le_of_ble_eq_true rfl, Nat.le_of_ble_eq_true rfl⟩, List.forall_mem_cons.mpr ⟨⟨c_X4_greatest l G hp, Nat.le_of_ble_eq_true rfl, Nat.le_of_ble_eq_true rfl⟩, List.forall_mem_cons.mpr ⟨⟨c_X4_total l G hp, Nat.le_of_ble_eq_true rfl, Nat.le_of_ble_eq_true rfl⟩, fun _ h => absurd h List.not_mem_nil⟩⟩⟩⟩⟩⟩⟩) (fun h => by cases h) 600 ?_
  intro as s0 hpre
  obtain ⟨r, a1, a2, rfl, hr, i0⟩ := hpre
  simp only [List.mem_cons, List.not_mem_nil, or_false] at hr
  rcases hr with rfl
  ·
    have z0 : (Int32.ofInt 0).toInt = 0 := by decide
    have z1 : (Int32.ofInt 1).toInt = 1 := by decide
    have z2 : (Int32.ofInt 2).toInt = 2 := by decide
    have z5 : (Int32.ofInt 5).toInt = 5 := by decide
    refine ⟨Nat.le_of_ble_eq_true rfl, [], ?_, fun _ h => absurd h List.not_mem_nil⟩
    ·
      refine And.intro (Nat.le_of_ble_eq_true rfl) (And.intro ⟨a2, (Int32.ofInt 0), (Int32.ofInt 2), rfl, trivial⟩ ?_)
      intro v1 s3 h2
      have h2 : s3 = s0 ∧ ((v1.toInt = 1 ∧ (Int32.ofInt 0).toInt ≤ a2.toInt ∧ a2.toInt ≤ (Int32.ofInt 2).toInt) ∨ (v1.toInt = 0 ∧ (a2.toInt < (Int32.ofInt 0).toInt ∨ (Int32.ofInt 2).toInt < a2.toInt))) := h2
      have q6 := h2.1.symm
      subst q6
      have q7 := h2.2
      refine And.intro (fun c8 => ?_) (fun c8 => ?_)
      · have c8 : ¬ v1.toInt = 0 := c8
        refine And.intro (Nat.le_of_ble_eq_true rfl) (And.intro ⟨a1, rfl, trivial⟩ ?_)
        intro v9 s11 h10
        have h10 : s11 = s0 ∧ ((v9.toInt = 1 ∧ 0 ≤ a1.toInt ∧ a1.toInt ≤ 6) ∨ (v9.toInt = 0 ∧ (a1.toInt < 0 ∨ 6 < a1.toInt))) := h10
        have q14 := h10.1.symm
        subst q14
        have q15 := h10.2
        refine And.intro (fun c16 => ?_) (fun c16 => ?_)
        · have c16 : ¬ v9.toInt = 0 := c16
          refine And.intro rfl (And.intro ⟨by omega, by omega⟩ ?_)
          refine And.intro (fun c17 => ?_) ?_
          · have c17 : a1.toInt = (0) := c17
            intro v18 e19
            have g20 : s0.1 41 2 = v18 := by rw [e19]
            have b21 : (0 : Int) ≤ v18.toInt ∧ v18.toInt ≤ 48 := by rw [e19]; exact Iv_41_2 i0
            refine And.intro (fun c22 => ?_) (fun c22 => ?_)
            · have c22 : ¬ v18.toInt = 0 := c22
              refine And.intro (fun c23 => ?_) (fun c23 => ?_)
              · have c23 : a2.toInt = (0) := c23
                refine And.intro (Nat.le_of_ble_eq_true rfl) (And.intro ⟨41, rfl, by decide, i0⟩ ?_)
                intro v24 s26 h25
                have h25 : s26 = s0 ∧ (True) := h25
                have q29 := h25.1.symm
                subst q29
                intro v30 e31
                refine And.intro (Nat.le_of_ble_eq_true rfl) (And.intro ⟨0, v30, rfl, by decide, i0⟩ ?_)
                intro v32 s34 h33
                have h33 : Iv s34 ∧ Kp s0 s34 ∧ (v32 = v30) := h33
                have i35 := h33.1
                have k36 : Kp s0 s34 := Kx.tr Kx.rf (h33.2.1)
                have q37 := h33.2.2
                show Iv s34 ∧ Kp s0 s34 ∧ (True)
                exact ⟨i35, k36, (trivial)⟩
              have c23 : ¬ (a2.toInt = (0)) := c23
              refine And.intro (fun c38 => ?_) (fun c38 => ?_)
              · have c38 : a2.toInt = (1) := c38
                refine And.intro (Nat.le_of_ble_eq_true rfl) (And.intro ⟨41, rfl, by decide, i0⟩ ?_)
                intro v39 s41 h40
                have h40 : s41 = s0 ∧ (True) := h40
                have q44 := h40.1.symm
                subst q44
                intro v45 e46
                refine And.intro (Nat.le_of_ble_eq_true rfl) (And.intro ⟨0, v45, rfl, by decide, i0⟩ ?_)
                intro v47 s49 h48
                have h48 : Iv s49 ∧ Kp s0 s49 ∧ (v47 = v45) := h48
                have i50 := h48.1
                have k51 : Kp s0 s49 := Kx.tr Kx.rf (h48.2.1)
                have q52 := h48.2.2
                show Iv s49 ∧ Kp s0 s49 ∧ (True)
                exact ⟨i50, k51, (trivial)⟩
              have c38 : ¬ (a2.toInt = (1)) := c38
              refine And.intro (Nat.le_of_ble_eq_true rfl) (And.intro ⟨41, rfl, by decide, i0⟩ ?_)
              intro v53 s55 h54
              have h54 : s55 = s0 ∧ (True) := h54
              have q58 := h54.1.symm
              subst q58
              refine And.intro (Nat.le_of_ble_eq_true rfl) (And.intro ⟨0, v53, rfl, by decide, i0⟩ ?_)
              intro v59 s61 h60
              have h60 : Iv s61 ∧ Kp s0 s61 ∧ (v59 = v53) := h60
              have i62 := h60.1
              have k63 : Kp s0 s61 := Kx.tr Kx.rf (h60.2.1)
              have q64 := h60.2.2
              show Iv s61 ∧ Kp s0 s61 ∧ (True)
              exact ⟨i62, k63, (trivial)⟩
            · have c22 : ¬ (¬ v18.toInt = 0) := c22
              refine And.intro (Nat.le_of_ble_eq_true rfl) (And.intro ⟨0, (Int32.ofInt 5), rfl, by decide, i0⟩ ?_)
              intro v65 s67 h66
              have h66 : Iv s67 ∧ Kp s0 s67 ∧ (v65.toInt = -1) := h66
              have i68 := h66.1
              have k69 : Kp s0 s67 := Kx.tr Kx.rf (h66.2.1)
              have q70 := h66.2.2
              intro v71 e72
              show Iv s67 ∧ Kp s0 s67 ∧ (True)
              exact ⟨i68, k69, (trivial)⟩
          refine And.intro (fun c73 => ?_) ?_
          · have c73 : a1.toInt = (1) := c73
            intro v74 e75
            have g76 : s0.1 43 2 = v74 := by rw [e75]
            have b77 : (0 : Int) ≤ v74.toInt ∧ v74.toInt ≤ 48 := by rw [e75]; exact Iv_43_2 i0
            refine And.intro (fun c78 => ?_) (fun c78 => ?_)
            · have c78 : ¬ v74.toInt = 0 := c78
              refine And.intro (fun c79 => ?_) (fun c79 => ?_)
              · have c79 : a2.toInt = (0) := c79
                refine And.intro (Nat.le_of_ble_eq_true rfl) (And.intro ⟨43, rfl, by decide, i0⟩ ?_)
                intro v80 s82 h81
                have h81 : s82 = s0 ∧ (True) := h81
                have q85 := h81.1.symm
                subst q85
                intro v86 e87
                refine And.intro (Nat.le_of_ble_eq_true rfl) (And.intro ⟨0, v86, rfl, by decide, i0⟩ ?_)
                intro v88 s90 h89
                have h89 : Iv s90 ∧ Kp s0 s90 ∧ (v88 = v86) := h89
                have i91 := h89.1
                have k92 : Kp s0 s90 := Kx.tr Kx.rf (h89.2.1)
                have q93 := h89.2.2
                show Iv s90 ∧ Kp s0 s90 ∧ (True)
                exact ⟨i91, k92, (trivial)⟩
              have c79 : ¬ (a2.toInt = (0)) := c79
              refine And.intro (fun c94 => ?_) (fun c94 => ?_)
              · have c94 : a2.toInt = (1) := c94
                refine And.intro (Nat.le_of_ble_eq_true rfl) (And.intro ⟨43, rfl, by decide, i0⟩ ?_)
                intro v95 s97 h96
                have h96 : s97 = s0 ∧ (True) := h96
                have q100 := h96.1.symm
                subst q100
                intro v101 e102
                refine And.intro (Nat.le_of_ble_eq_true rfl) (And.intro ⟨0, v101, rfl, by decide, i0⟩ ?_)
                intro v103 s105 h104
                have h104 : Iv s105 ∧ Kp s0 s105 ∧ (v103 = v101) := h104
                have i106 := h104.1
                have k107 : Kp s0 s105 := Kx.tr Kx.rf (h104.2.1)
                have q108 := h104.2.2
                show Iv s105 ∧ Kp s0 s105 ∧ (True)
                exact ⟨i106, k107, (trivial)⟩
              have c94 : ¬ (a2.toInt = (1)) := c94
              refine And.intro (Nat.le_of_ble_eq_true rfl) (And.intro ⟨43, rfl, by decide, i0⟩ ?_)
              intro v109 s111 h110
              have h110 : s111 = s0 ∧ (True) := h110
              have q114 := h110.1.symm
              subst q114
              refine And.intro (Nat.le_of_ble_eq_true rfl) (And.intro ⟨0, v109, rfl, by decide, i0⟩ ?_)
              intro v115 s117 h116
              have h116 : Iv s117 ∧ Kp s0 s117 ∧ (v115 = v109) := h116
              have i118 := h116.1
              have k119 : Kp s0 s117 := Kx.tr Kx.rf (h116.2.1)
              have q120 := h116.2.2
              show Iv s117 ∧ Kp s0 s117 ∧ (True)
              exact ⟨i118, k119, (trivial)⟩
            · have c78 : ¬ (¬ v74.toInt = 0) := c78
              refine And.intro (Nat.le_of_ble_eq_true rfl) (And.intro ⟨0, (Int32.ofInt 5), rfl, by decide, i0⟩ ?_)
              intro v121 s123 h122
              have h122 : Iv s123 ∧ Kp s0 s123 ∧ (v121.toInt = -1) := h122
              have i124 := h122.1
              have k125 : Kp s0 s123 := Kx.tr Kx.rf (h122.2.1)
              have q126 := h122.2.2
              intro v127 e128
              show Iv s123 ∧ Kp s0 s123 ∧ (True)
              exact ⟨i124, k125, (trivial)⟩
          refine And.intro (fun c129 => ?_) ?_
          · have c129 : a1.toInt = (2) := c129
            intro v130 e131
            have g132 : s0.1 45 2 = v130 := by rw [e131]
            have b133 : (0 : Int) ≤ v130.toInt ∧ v130.toInt ≤ 48 := by rw [e131]; exact Iv_45_2 i0
            refine And.intro (fun c134 => ?_) (fun c134 => ?_)
            · have c134 : ¬ v130.toInt = 0 := c134
              refine And.intro (fun c135 => ?_) (fun c135 => ?_)
              · have c135 : a2.toInt = (0) := c135
                refine And.intro (Nat.le_of_ble_eq_true rfl) (And.intro ⟨45, rfl, by decide, i0⟩ ?_)
                intro v136 s138 h137
                have h137 : s138 = s0 ∧ (True) := h137
                have q141 := h137.1.symm
                subst q141
                intro v142 e143
                refine And.intro (Nat.le_of_ble_eq_true rfl) (And.intro ⟨0, v142, rfl, by decide, i0⟩ ?_)
                intro v144 s146 h145
                have h145 : Iv s146 ∧ Kp s0 s146 ∧ (v144 = v142) := h145
                have i147 := h145.1
                have k148 : Kp s0 s146 := Kx.tr Kx.rf (h145.2.1)
                have q149 := h145.2.2
                show Iv s146 ∧ Kp s0 s146 ∧ (True)
                exact ⟨i147, k148, (trivial)⟩
              have c135 : ¬ (a2.toInt = (0)) := c135
              refine And.intro (fun c150 => ?_) (fun c150 => ?_)
              · have c150 : a2.toInt = (1) := c150
                refine And.intro (Nat.le_of_ble_eq_true rfl) (And.intro ⟨45, rfl, by decide, i0⟩ ?_)
                intro v151 s153 h152
                have h152 : s153 = s0 ∧ (True) := h152
                have q156 := h152.1.symm
                subst q156
                intro v157 e158
                refine And.intro (Nat.le_of_ble_eq_true rfl) (And.intro ⟨0, v157, rfl, by decide, i0⟩ ?_)
                intro v159 s161 h160
                have h160 : Iv s161 ∧ Kp s0 s161 ∧ (v159 = v157) := h160
                have i162 := h160.1
                have k163 : Kp s0 s161 := Kx.tr Kx.rf (h160.2.1)
                have q164 := h160.2.2
                show Iv s161 ∧ Kp s0 s161 ∧ (True)
                exact ⟨i162, k163, (trivial)⟩
              have c150 : ¬ (a2.toInt = (1)) := c150
              refine And.intro (Nat.le_of_ble_eq_true rfl) (And.intro ⟨45, rfl, by decide, i0⟩ ?_)
              intro v165 s167 h166
              have h166 : s167 = s0 ∧ (True) := h166
              have q170 := h166.1.symm
              subst q170
              refine And.intro (Nat.le_of_ble_eq_true rfl) (And.intro ⟨0, v165, rfl, by decide, i0⟩ ?_)
              intro v171 s173 h172
              have h172 : Iv s173 ∧ Kp s0 s173 ∧ (v171 = v165) := h172
              have i174 := h172.1
              have k175 : Kp s0 s173 := Kx.tr Kx.rf (h172.2.1)
              have q176 := h172.2.2
              show Iv s173 ∧ Kp s0 s173 ∧ (True)
              exact ⟨i174, k175, (trivial)⟩
            · have c134 : ¬ (¬ v130.toInt = 0) := c134
              refine And.intro (Nat.le_of_ble_eq_true rfl) (And.intro ⟨0, (Int32.ofInt 5), rfl, by decide, i0⟩ ?_)
              intro v177 s179 h178
              have h178 : Iv s179 ∧ Kp s0 s179 ∧ (v177.toInt = -1) := h178
              have i180 := h178.1
              have k181 : Kp s0 s179 := Kx.tr Kx.rf (h178.2.1)
              have q182 := h178.2.2
              intro v183 e184
              show Iv s179 ∧ Kp s0 s179 ∧ (True)
              exact ⟨i180, k181, (trivial)⟩
          refine And.intro (fun c185 => ?_) ?_
          · have c185 : a1.toInt = (3) := c185
            intro v186 e187
            have g188 : s0.1 47 2 = v186 := by rw [e187]
            have b189 : (0 : Int) ≤ v186.toInt ∧ v186.toInt ≤ 48 := by rw [e187]; exact Iv_47_2 i0
            refine And.intro (fun c190 => ?_) (fun c190 => ?_)
            · have c190 : ¬ v186.toInt = 0 := c190
              refine And.intro (fun c191 => ?_) (fun c191 => ?_)
              · have c191 : a2.toInt = (0) := c191
                refine And.intro (Nat.le_of_ble_eq_true rfl) (And.intro ⟨47, rfl, by decide, i0⟩ ?_)
                intro v192 s194 h193
                have h193 : s194 = s0 ∧ (True) := h193
                have q197 := h193.1.symm
                subst q197
                intro v198 e199
                refine And.intro (Nat.le_of_ble_eq_true rfl) (And.intro ⟨0, v198, rfl, by decide, i0⟩ ?_)
                intro v200 s202 h201
                have h201 : Iv s202 ∧ Kp s0 s202 ∧ (v200 = v198) := h201
                have i203 := h201.1
                have k204 : Kp s0 s202 := Kx.tr Kx.rf (h201.2.1)
                have q205 := h201.2.2
                show Iv s202 ∧ Kp s0 s202 ∧ (True)
                exact ⟨i203, k204, (trivial)⟩
              have c191 : ¬ (a2.toInt = (0)) := c191
              refine And.intro (fun c206 => ?_) (fun c206 => ?_)
              · have c206 : a2.toInt = (1) := c206
                refine And.intro (Nat.le_of_ble_eq_true rfl) (And.intro ⟨47, rfl, by decide, i0⟩ ?_)
                intro v207 s209 h208
                have h208 : s209 = s0 ∧ (True) := h208
                have q212 := h208.1.symm
                subst q212
                intro v213 e214
                refine And.intro (Nat.le_of_ble_eq_true rfl) (And.intro ⟨0, v213, rfl, by decide, i0⟩ ?_)
                intro v215 s217 h216
                have h216 : Iv s217 ∧ Kp s0 s217 ∧ (v215 = v213) := h216
                have i218 := h216.1
                have k219 : Kp s0 s217 := Kx.tr Kx.rf (h216.2.1)
                have q220 := h216.2.2
                show Iv s217 ∧ Kp s0 s217 ∧ (True)
                exact ⟨i218, k219, (trivial)⟩
              have c206 : ¬ (a2.toInt = (1)) := c206
              refine And.intro (Nat.le_of_ble_eq_true rfl) (And.intro ⟨47, rfl, by decide, i0⟩ ?_)
              intro v221 s223 h222
              have h222 : s223 = s0 ∧ (True) := h222
              have q226 := h222.1.symm
              subst q226
              refine And.intro (Nat.le_of_ble_eq_true rfl) (And.intro ⟨0, v221, rfl, by decide, i0⟩ ?_)
              intro v227 s229 h228
              have h228 : Iv s229 ∧ Kp s0 s229 ∧ (v227 = v221) := h228
              have i230 := h228.1
              have k231 : Kp s0 s229 := Kx.tr Kx.rf (h228.2.1)
              have q232 := h228.2.2
              show Iv s229 ∧ Kp s0 s229 ∧ (True)
              exact ⟨i230, k231, (trivial)⟩
            · have c190 : ¬ (¬ v186.toInt = 0) := c190
              refine And.intro (Nat.le_of_ble_eq_true rfl) (And.intro ⟨0, (Int32.ofInt 5), rfl, by decide, i0⟩ ?_)
              intro v233 s235 h234
              have h234 : Iv s235 ∧ Kp s0 s235 ∧ (v233.toInt = -1) := h234
              have i236 := h234.1
              have k237 : Kp s0 s235 := Kx.tr Kx.rf (h234.2.1)
              have q238 := h234.2.2
              intro v239 e240
              show Iv s235 ∧ Kp s0 s235 ∧ (True)
              exact ⟨i236, k237, (trivial)⟩
          refine And.intro (fun c241 => ?_) ?_
          · have c241 : a1.toInt = (4) := c241
            intro v242 e243
            have g244 : s0.1 49 2 = v242 := by rw [e243]
            have b245 : (0 : Int) ≤ v242.toInt ∧ v242.toInt ≤ 48 := by rw [e243]; exact Iv_49_2 i0
            refine And.intro (fun c246 => ?_) (fun c246 => ?_)
            · have c246 : ¬ v242.toInt = 0 := c246
              refine And.intro (fun c247 => ?_) (fun c247 => ?_)
              · have c247 : a2.toInt = (0) := c247
                refine And.intro (Nat.le_of_ble_eq_true rfl) (And.intro ⟨49, rfl, by decide, i0⟩ ?_)
                intro v248 s250 h249
                have h249 : s250 = s0 ∧ (True) := h249
                have q253 := h249.1.symm
                subst q253
                intro v254 e255
                refine And.intro (Nat.le_of_ble_eq_true rfl) (And.intro ⟨0, v254, rfl, by decide, i0⟩ ?_)
                intro v256 s258 h257
                have h257 : Iv s258 ∧ Kp s0 s258 ∧ (v256 = v254) := h257
                have i259 := h257.1
                have k260 : Kp s0 s258 := Kx.tr Kx.rf (h257.2.1)
                have q261 := h257.2.2
                show Iv s258 ∧ Kp s0 s258 ∧ (True)
                exact ⟨i259, k260, (trivial)⟩
              have c247 : ¬ (a2.toInt = (0)) := c247
              refine And.intro (fun c262 => ?_) (fun c262 => ?_)
              · have c262 : a2.toInt = (1) := c262
                refine And.intro (Nat.le_of_ble_eq_true rfl) (And.intro ⟨49, rfl, by decide, i0⟩ ?_)
                intro v263 s265 h264
                have h264 : s265 = s0 ∧ (True) := h264
                have q268 := h264.1.symm
                subst q268
                intro v269 e270
                refine And.intro (Nat.le_of_ble_eq_true rfl) (And.intro ⟨0, v269, rfl, by decide, i0⟩ ?_)
                intro v271 s273 h272
                have h272 : Iv s273 ∧ Kp s0 s273 ∧ (v271 = v269) := h272
                have i274 := h272.1
                have k275 : Kp s0 s273 := Kx.tr Kx.rf (h272.2.1)
                have q276 := h272.2.2
                show Iv s273 ∧ Kp s0 s273 ∧ (True)
                exact ⟨i274, k275, (trivial)⟩
              have c262 : ¬ (a2.toInt = (1)) := c262
              refine And.intro (Nat.le_of_ble_eq_true rfl) (And.intro ⟨49, rfl, by decide, i0⟩ ?_)
              intro v277 s279 h278
              have h278 : s279 = s0 ∧ (True) := h278
              have q282 := h278.1.symm
              subst q282
              refine And.intro (Nat.le_of_ble_eq_true rfl) (And.intro ⟨0, v277, rfl, by decide, i0⟩ ?_)
              intro v283 s285 h284
              have h284 : Iv s285 ∧ Kp s0 s285 ∧ (v283 = v277) := h284
              have i286 := h284.1
              have k287 : Kp s0 s285 := Kx.tr Kx.rf (h284.2.1)
              have q288 := h284.2.2
              show Iv s285 ∧ Kp s0 s285 ∧ (True)
              exact ⟨i286, k287, (trivial)⟩
            · have c246 : ¬ (¬ v242.toInt = 0) := c246
              refine And.intro (Nat.le_of_ble_eq_true rfl) (And.intro ⟨0, (Int32.ofInt 5), rfl, by decide, i0⟩ ?_)
              intro v289 s291 h290
              have h290 : Iv s291 ∧ Kp s0 s291 ∧ (v289.toInt = -1) := h290
              have i292 := h290.1
              have k293 : Kp s0 s291 := Kx.tr Kx.rf (h290.2.1)
              have q294 := h290.2.2
              intro v295 e296
              show Iv s291 ∧ Kp s0 s291 ∧ (True)
              exact ⟨i292, k293, (trivial)⟩
          refine And.intro (fun c297 => ?_) ?_
          · have c297 : a1.toInt = (5) := c297
            intro v298 e299
            have g300 : s0.1 51 2 = v298 := by rw [e299]
            have b301 : (0 : Int) ≤ v298.toInt ∧ v298.toInt ≤ 48 := by rw [e299]; exact Iv_51_2 i0
            refine And.intro (fun c302 => ?_) (fun c302 => ?_)
            · have c302 : ¬ v298.toInt = 0 := c302
              refine And.intro (fun c303 => ?_) (fun c303 => ?_)
              · have c303 : a2.toInt = (0) := c303
                refine And.intro (Nat.le_of_ble_eq_true rfl) (And.intro ⟨51, rfl, by decide, i0⟩ ?_)
                intro v304 s306 h305
                have h305 : s306 = s0 ∧ (True) := h305
                have q309 := h305.1.symm
                subst q309
                intro v310 e311
                refine And.intro (Nat.le_of_ble_eq_true rfl) (And.intro ⟨0, v310, rfl, by decide, i0⟩ ?_)
                intro v312 s314 h313
                have h313 : Iv s314 ∧ Kp s0 s314 ∧ (v312 = v310) := h313
                have i315 := h313.1
                have k316 : Kp s0 s314 := Kx.tr Kx.rf (h313.2.1)
                have q317 := h313.2.2
                show Iv s314 ∧ Kp s0 s314 ∧ (True)
                exact ⟨i315, k316, (trivial)⟩
              have c303 : ¬ (a2.toInt = (0)) := c303
              refine And.intro (fun c318 => ?_) (fun c318 => ?_)
              · have c318 : a2.toInt = (1) := c318
                refine And.intro (Nat.le_of_ble_eq_true rfl) (And.intro ⟨51, rfl, by decide, i0⟩ ?_)
                intro v319 s321 h320
                have h320 : s321 = s0 ∧ (True) := h320
                have q324 := h320.1.symm
                subst q324
                intro v325 e326
                refine And.intro (Nat.le_of_ble_eq_true rfl) (And.intro ⟨0, v325, rfl, by decide, i0⟩ ?_)
                intro v327 s329 h328
                have h328 : Iv s329 ∧ Kp s0 s329 ∧ (v327 = v325) := h328
                have i330 := h328.1
                have k331 : Kp s0 s329 := Kx.tr Kx.rf (h328.2.1)
                have q332 := h328.2.2
                show Iv s329 ∧ Kp s0 s329 ∧ (True)
                exact ⟨i330, k331, (trivial)⟩
              have c318 : ¬ (a2.toInt = (1)) := c318
              refine And.intro (Nat.le_of_ble_eq_true rfl) (And.intro ⟨51, rfl, by decide, i0⟩ ?_)
              intro v333 s335 h334
              have h334 : s335 = s0 ∧ (True) := h334
              have q338 := h334.1.symm
              subst q338
              refine And.intro (Nat.le_of_ble_eq_true rfl) (And.intro ⟨0, v333, rfl, by decide, i0⟩ ?_)
              intro v339 s341 h340
              have h340 : Iv s341 ∧ Kp s0 s341 ∧ (v339 = v333) := h340
              have i342 := h340.1
              have k343 : Kp s0 s341 := Kx.tr Kx.rf (h340.2.1)
              have q344 := h340.2.2
              show Iv s341 ∧ Kp s0 s341 ∧ (True)
              exact ⟨i342, k343, (trivial)⟩
            · have c302 : ¬ (¬ v298.toInt = 0) := c302
              refine And.intro (Nat.le_of_ble_eq_true rfl) (And.intro ⟨0, (Int32.ofInt 5), rfl, by decide, i0⟩ ?_)
              intro v345 s347 h346
              have h346 : Iv s347 ∧ Kp s0 s347 ∧ (v345.toInt = -1) := h346
              have i348 := h346.1
              have k349 : Kp s0 s347 := Kx.tr Kx.rf (h346.2.1)
              have q350 := h346.2.2
              intro v351 e352
              show Iv s347 ∧ Kp s0 s347 ∧ (True)
              exact ⟨i348, k349, (trivial)⟩
          refine And.intro (fun c353 => ?_) ?_
          · have c353 : a1.toInt = (6) := c353
            intro v354 e355
            have g356 : s0.1 53 2 = v354 := by rw [e355]
            have b357 : (0 : Int) ≤ v354.toInt ∧ v354.toInt ≤ 48 := by rw [e355]; exact Iv_53_2 i0
            refine And.intro (fun c358 => ?_) (fun c358 => ?_)
            · have c358 : ¬ v354.toInt = 0 := c358
              refine And.intro (fun c359 => ?_) (fun c359 => ?_)
              · have c359 : a2.toInt = (0) := c359
                refine And.intro (Nat.le_of_ble_eq_true rfl) (And.intro ⟨53, rfl, by decide, i0⟩ ?_)
                intro v360 s362 h361
                have h361 : s362 = s0 ∧ (True) := h361
                have q365 := h361.1.symm
                subst q365
                intro v366 e367
                refine And.intro (Nat.le_of_ble_eq_true rfl) (And.intro ⟨0, v366, rfl, by decide, i0⟩ ?_)
                intro v368 s370 h369
                have h369 : Iv s370 ∧ Kp s0 s370 ∧ (v368 = v366) := h369
                have i371 := h369.1
                have k372 : Kp s0 s370 := Kx.tr Kx.rf (h369.2.1)
                have q373 := h369.2.2
                show Iv s370 ∧ Kp s0 s370 ∧ (True)
                exact ⟨i371, k372, (trivial)⟩
              have c359 : ¬ (a2.toInt = (0)) := c359
              refine And.intro (fun c374 => ?_) (fun c374 => ?_)
              · have c374 : a2.toInt = (1) := c374
                refine And.intro (Nat.le_of_ble_eq_true rfl) (And.intro ⟨53, rfl, by decide, i0⟩ ?_)
                intro v375 s377 h376
                have h376 : s377 = s0 ∧ (True) := h376
                have q380 := h376.1.symm
                subst q380
                intro v381 e382
                refine And.intro (Nat.le_of_ble_eq_true rfl) (And.intro ⟨0, v381, rfl, by decide, i0⟩ ?_)
                intro v383 s385 h384
                have h384 : Iv s385 ∧ Kp s0 s385 ∧ (v383 = v381) := h384
                have i386 := h384.1
                have k387 : Kp s0 s385 := Kx.tr Kx.rf (h384.2.1)
                have q388 := h384.2.2
                show Iv s385 ∧ Kp s0 s385 ∧ (True)
                exact ⟨i386, k387, (trivial)⟩
              have c374 : ¬ (a2.toInt = (1)) := c374
              refine And.intro (Nat.le_of_ble_eq_true rfl) (And.intro ⟨53, rfl, by decide, i0⟩ ?_)
              intro v389 s391 h390
              have h390 : s391 = s0 ∧ (True) := h390
              have q394 := h390.1.symm
              subst q394
              refine And.intro (Nat.le_of_ble_eq_true rfl) (And.intro ⟨0, v389, rfl, by decide, i0⟩ ?_)
              intro v395 s397 h396
              have h396 : Iv s397 ∧ Kp s0 s397 ∧ (v395 = v389) := h396
              have i398 := h396.1
              have k399 : Kp s0 s397 := Kx.tr Kx.rf (h396.2.1)
              have q400 := h396.2.2
              show Iv s397 ∧ Kp s0 s397 ∧ (True)
              exact ⟨i398, k399, (trivial)⟩
            · have c358 : ¬ (¬ v354.toInt = 0) := c358
              refine And.intro (Nat.le_of_ble_eq_true rfl) (And.intro ⟨0, (Int32.ofInt 5), rfl, by decide, i0⟩ ?_)
              intro v401 s403 h402
              have h402 : Iv s403 ∧ Kp s0 s403 ∧ (v401.toInt = -1) := h402
              have i404 := h402.1
              have k405 : Kp s0 s403 := Kx.tr Kx.rf (h402.2.1)
              have q406 := h402.2.2
              intro v407 e408
              show Iv s403 ∧ Kp s0 s403 ∧ (True)
              exact ⟨i404, k405, (trivial)⟩
          exact trivial
        · have c16 : ¬ (¬ v9.toInt = 0) := c16
          refine And.intro (Nat.le_of_ble_eq_true rfl) (And.intro ⟨0, (Int32.ofInt 2), rfl, by decide, i0⟩ ?_)
          intro v409 s411 h410
          have h410 : Iv s411 ∧ Kp s0 s411 ∧ (v409.toInt = -1) := h410
          have i412 := h410.1
          have k413 : Kp s0 s411 := Kx.tr Kx.rf (h410.2.1)
          have q414 := h410.2.2
          intro v415 e416
          show Iv s411 ∧ Kp s0 s411 ∧ (True)
          exact ⟨i412, k413, (trivial)⟩
      · have c8 : ¬ (¬ v1.toInt = 0) := c8
        refine And.intro (Nat.le_of_ble_eq_true rfl) (And.intro ⟨0, (Int32.ofInt 1), rfl, by decide, i0⟩ ?_)
        intro v417 s419 h418
        have h418 : Iv s419 ∧ Kp s0 s419 ∧ (v417.toInt = -1) := h418
        have i420 := h418.1
        have k421 : Kp s0 s419 := Kx.tr Kx.rf (h418.2.1)
        have q422 := h418.2.2
        intro v423 e424
        show Iv s419 ∧ Kp s0 s419 ∧ (True)
        exact ⟨i420, k421, (trivial)⟩
def o_X10_steady : List vg_I := [(0, .iload_n 2, 1, 0, 0, 0, 0), (1, .iconst 0, 1, 0, 0, 0, 0), (2, .sipush 30000, 3, 0, 0, 0, 0), (5, .invokestatic 82, 3, 0, 1, 3, 478), (8, .ifCond .ne 9, 3, 0, 0, 0, 0), (11, .aload_n 0, 1, 0, 0, 0, 0), (12, .iconst 1, 1, 0, 0, 0, 0), (13, .invokevirtual 90, 3, 1, 10, 1, 484), (16, .ireturn, 1, 0, 0, 0, 0), (17, .iload_n 1, 1, 0, 0, 0, 0), (18, .invokestatic 201, 3, 2, 1, 1, 609), (21, .ifCond .ne 9, 3, 0, 0, 0, 0), (24, .aload_n 0, 1, 0, 0, 0, 0), (25, .iconst 2, 1, 0, 0, 0, 0), (26, .invokevirtual 90, 3, 1, 10, 1, 484), (29, .ireturn, 1, 0, 0, 0, 0), (30, .aload_n 0, 1, 0, 0, 0, 0), (31, .getfield 52, 3, 436, 10, 9, 0), (34, .iload_n 1, 1, 0, 0, 0, 0), (35, .aaload, 1, 0, 0, 0, 0), (36, .getfield 210, 3, 415, 4, 2, 0), (39, .ifCond .ne 9, 3, 0, 0, 0, 0), (42, .aload_n 0, 1, 0, 0, 0, 0), (43, .iconst 5, 1, 0, 0, 0, 0), (44, .invokevirtual 90, 3, 1, 10, 1, 484), (47, .ireturn, 1, 0, 0, 0, 0), (48, .aload_n 0, 1, 0, 0, 0, 0), (49, .aload_n 0, 1, 0, 0, 0, 0), (50, .getfield 52, 3, 436, 10, 9, 0), (53, .iload_n 1, 1, 0, 0, 0, 0), (54, .aaload, 1, 0, 0, 0, 0), (55, .iload_n 2, 1, 0, 0, 0, 0), (56, .invokevirtual 281, 3, 3, 4, 1, 843), (59, .invokevirtual 113, 3, 4, 10, 1, 520), (62, .ireturn, 1, 0, 0, 0, 0)]
set_option maxRecDepth 100000 in
set_option maxHeartbeats 4000000 in
theorem c_X10_steady (l : Launch) (G : vg_G) (hp : vg_Hp G) : vg_Ct l G vg_sh r_X10_steady := by
  refine vg_meth hp vg_sh_ok r_X10_steady k_X10_steady rfl (fun h => by cases h) o_X10_steady [r_X10_within, r_X10_refuse, r_X10_isStage, r_X4_nearLatest, r_X10_answer] false (by decide +kernel) (by decide +kernel) ⟨_, _, rfl, rfl⟩ (List.forall_mem_cons.mpr ⟨⟨c_X10_within l G hp, Nat.le_of_ble_eq_true rfl, Nat.le_of_ble_eq_true rfl⟩, List.forall_mem_cons.mpr ⟨⟨c_X10_refuse l G hp, Nat.le_of_ble_eq_true rfl, Nat.le_of_ble_eq_true rfl⟩, List.forall_mem_cons.mpr ⟨⟨c_X10_isStage l G hp, Nat.le_of_ble_eq_true rfl, Nat.le_of_ble_eq_true rfl⟩, List.forall_mem_cons.mpr ⟨⟨c_X4_nearLatest l G hp, Nat.le_of_ble_eq_true rfl, Nat.le_of_ble_eq_true rfl⟩, List.forall_mem_cons.mpr ⟨⟨c_X10_answer l G hp, Nat.le_of_ble_eq_true rfl, Nat.le_of_ble_eq_true rfl⟩, fun _ h => absurd h List.not_mem_nil⟩⟩⟩⟩⟩) (fun h => by cases h) 600 ?_
  intro as s0 hpre
  obtain ⟨r, a1, a2, rfl, hr, i0⟩ := hpre
  simp only [List.mem_cons, List.not_mem_nil, or_false] at hr
  rcases hr with rfl
  ·
    have z0 : (Int32.ofInt 0).toInt = 0 := by decide
    have z1 : (Int32.ofInt 1).toInt = 1 := by decide
    have z2 : (Int32.ofInt 2).toInt = 2 := by decide
    have z5 : (Int32.ofInt 5).toInt = 5 := by decide
    have z30000 : (Int32.ofInt 30000).toInt = 30000 := by decide
    refine ⟨Nat.le_of_ble_eq_true rfl, [], ?_, fun _ h => absurd h List.not_mem_nil⟩
    ·
      refine And.intro (Nat.le_of_ble_eq_true rfl) (And.intro ⟨a2, (Int32.ofInt 0), (Int32.ofInt 30000), rfl, trivial⟩ ?_)
      intro v1 s3 h2
      have h2 : s3 = s0 ∧ ((v1.toInt = 1 ∧ (Int32.ofInt 0).toInt ≤ a2.toInt ∧ a2.toInt ≤ (Int32.ofInt 30000).toInt) ∨ (v1.toInt = 0 ∧ (a2.toInt < (Int32.ofInt 0).toInt ∨ (Int32.ofInt 30000).toInt < a2.toInt))) := h2
      have q6 := h2.1.symm
      subst q6
      have q7 := h2.2
      refine And.intro (fun c8 => ?_) (fun c8 => ?_)
      · have c8 : ¬ v1.toInt = 0 := c8
        refine And.intro (Nat.le_of_ble_eq_true rfl) (And.intro ⟨a1, rfl, trivial⟩ ?_)
        intro v9 s11 h10
        have h10 : s11 = s0 ∧ ((v9.toInt = 1 ∧ 0 ≤ a1.toInt ∧ a1.toInt ≤ 6) ∨ (v9.toInt = 0 ∧ (a1.toInt < 0 ∨ 6 < a1.toInt))) := h10
        have q14 := h10.1.symm
        subst q14
        have q15 := h10.2
        refine And.intro (fun c16 => ?_) (fun c16 => ?_)
        · have c16 : ¬ v9.toInt = 0 := c16
          refine And.intro rfl (And.intro ⟨by omega, by omega⟩ ?_)
          refine And.intro (fun c17 => ?_) ?_
          · have c17 : a1.toInt = (0) := c17
            intro v18 e19
            have g20 : s0.1 41 2 = v18 := by rw [e19]
            have b21 : (0 : Int) ≤ v18.toInt ∧ v18.toInt ≤ 48 := by rw [e19]; exact Iv_41_2 i0
            refine And.intro (fun c22 => ?_) (fun c22 => ?_)
            · have c22 : ¬ v18.toInt = 0 := c22
              refine And.intro rfl (And.intro ⟨by omega, by omega⟩ ?_)
              refine And.intro (fun c23 => ?_) ?_
              · have c23 : a1.toInt = (0) := c23
                refine And.intro (Nat.le_of_ble_eq_true rfl) (And.intro ⟨41, a2, rfl, by decide, i0⟩ ?_)
                intro v24 s26 h25
                have h25 : s26 = s0 ∧ (True) := h25
                have q29 := h25.1.symm
                subst q29
                refine And.intro (Nat.le_of_ble_eq_true rfl) (And.intro ⟨0, v24, rfl, by decide, i0⟩ ?_)
                intro v30 s32 h31
                have h31 : Iv s32 ∧ Kp s0 s32 ∧ (v30 = v24 ∧ v30.toInt = v24.toInt) := h31
                have i33 := h31.1
                have k34 : Kp s0 s32 := Kx.tr Kx.rf (h31.2.1)
                have q35 := h31.2.2
                show Iv s32 ∧ Kp s0 s32 ∧ (True)
                exact ⟨i33, k34, (trivial)⟩
              refine And.intro (fun c36 => ?_) ?_
              · have c36 : a1.toInt = (1) := c36
                exfalso
                omega
              refine And.intro (fun c37 => ?_) ?_
              · have c37 : a1.toInt = (2) := c37
                exfalso
                omega
              refine And.intro (fun c38 => ?_) ?_
              · have c38 : a1.toInt = (3) := c38
                exfalso
                omega
              refine And.intro (fun c39 => ?_) ?_
              · have c39 : a1.toInt = (4) := c39
                exfalso
                omega
              refine And.intro (fun c40 => ?_) ?_
              · have c40 : a1.toInt = (5) := c40
                exfalso
                omega
              refine And.intro (fun c41 => ?_) ?_
              · have c41 : a1.toInt = (6) := c41
                exfalso
                omega
              exact trivial
            · have c22 : ¬ (¬ v18.toInt = 0) := c22
              refine And.intro (Nat.le_of_ble_eq_true rfl) (And.intro ⟨0, (Int32.ofInt 5), rfl, by decide, i0⟩ ?_)
              intro v42 s44 h43
              have h43 : Iv s44 ∧ Kp s0 s44 ∧ (v42.toInt = -1) := h43
              have i45 := h43.1
              have k46 : Kp s0 s44 := Kx.tr Kx.rf (h43.2.1)
              have q47 := h43.2.2
              show Iv s44 ∧ Kp s0 s44 ∧ (True)
              exact ⟨i45, k46, (trivial)⟩
          refine And.intro (fun c48 => ?_) ?_
          · have c48 : a1.toInt = (1) := c48
            intro v49 e50
            have g51 : s0.1 43 2 = v49 := by rw [e50]
            have b52 : (0 : Int) ≤ v49.toInt ∧ v49.toInt ≤ 48 := by rw [e50]; exact Iv_43_2 i0
            refine And.intro (fun c53 => ?_) (fun c53 => ?_)
            · have c53 : ¬ v49.toInt = 0 := c53
              refine And.intro rfl (And.intro ⟨by omega, by omega⟩ ?_)
              refine And.intro (fun c54 => ?_) ?_
              · have c54 : a1.toInt = (0) := c54
                exfalso
                omega
              refine And.intro (fun c55 => ?_) ?_
              · have c55 : a1.toInt = (1) := c55
                refine And.intro (Nat.le_of_ble_eq_true rfl) (And.intro ⟨43, a2, rfl, by decide, i0⟩ ?_)
                intro v56 s58 h57
                have h57 : s58 = s0 ∧ (True) := h57
                have q61 := h57.1.symm
                subst q61
                refine And.intro (Nat.le_of_ble_eq_true rfl) (And.intro ⟨0, v56, rfl, by decide, i0⟩ ?_)
                intro v62 s64 h63
                have h63 : Iv s64 ∧ Kp s0 s64 ∧ (v62 = v56 ∧ v62.toInt = v56.toInt) := h63
                have i65 := h63.1
                have k66 : Kp s0 s64 := Kx.tr Kx.rf (h63.2.1)
                have q67 := h63.2.2
                show Iv s64 ∧ Kp s0 s64 ∧ (True)
                exact ⟨i65, k66, (trivial)⟩
              refine And.intro (fun c68 => ?_) ?_
              · have c68 : a1.toInt = (2) := c68
                exfalso
                omega
              refine And.intro (fun c69 => ?_) ?_
              · have c69 : a1.toInt = (3) := c69
                exfalso
                omega
              refine And.intro (fun c70 => ?_) ?_
              · have c70 : a1.toInt = (4) := c70
                exfalso
                omega
              refine And.intro (fun c71 => ?_) ?_
              · have c71 : a1.toInt = (5) := c71
                exfalso
                omega
              refine And.intro (fun c72 => ?_) ?_
              · have c72 : a1.toInt = (6) := c72
                exfalso
                omega
              exact trivial
            · have c53 : ¬ (¬ v49.toInt = 0) := c53
              refine And.intro (Nat.le_of_ble_eq_true rfl) (And.intro ⟨0, (Int32.ofInt 5), rfl, by decide, i0⟩ ?_)
              intro v73 s75 h74
              have h74 : Iv s75 ∧ Kp s0 s75 ∧ (v73.toInt = -1) := h74
              have i76 := h74.1
              have k77 : Kp s0 s75 := Kx.tr Kx.rf (h74.2.1)
              have q78 := h74.2.2
              show Iv s75 ∧ Kp s0 s75 ∧ (True)
              exact ⟨i76, k77, (trivial)⟩
          refine And.intro (fun c79 => ?_) ?_
          · have c79 : a1.toInt = (2) := c79
            intro v80 e81
            have g82 : s0.1 45 2 = v80 := by rw [e81]
            have b83 : (0 : Int) ≤ v80.toInt ∧ v80.toInt ≤ 48 := by rw [e81]; exact Iv_45_2 i0
            refine And.intro (fun c84 => ?_) (fun c84 => ?_)
            · have c84 : ¬ v80.toInt = 0 := c84
              refine And.intro rfl (And.intro ⟨by omega, by omega⟩ ?_)
              refine And.intro (fun c85 => ?_) ?_
              · have c85 : a1.toInt = (0) := c85
                exfalso
                omega
              refine And.intro (fun c86 => ?_) ?_
              · have c86 : a1.toInt = (1) := c86
                exfalso
                omega
              refine And.intro (fun c87 => ?_) ?_
              · have c87 : a1.toInt = (2) := c87
                refine And.intro (Nat.le_of_ble_eq_true rfl) (And.intro ⟨45, a2, rfl, by decide, i0⟩ ?_)
                intro v88 s90 h89
                have h89 : s90 = s0 ∧ (True) := h89
                have q93 := h89.1.symm
                subst q93
                refine And.intro (Nat.le_of_ble_eq_true rfl) (And.intro ⟨0, v88, rfl, by decide, i0⟩ ?_)
                intro v94 s96 h95
                have h95 : Iv s96 ∧ Kp s0 s96 ∧ (v94 = v88 ∧ v94.toInt = v88.toInt) := h95
                have i97 := h95.1
                have k98 : Kp s0 s96 := Kx.tr Kx.rf (h95.2.1)
                have q99 := h95.2.2
                show Iv s96 ∧ Kp s0 s96 ∧ (True)
                exact ⟨i97, k98, (trivial)⟩
              refine And.intro (fun c100 => ?_) ?_
              · have c100 : a1.toInt = (3) := c100
                exfalso
                omega
              refine And.intro (fun c101 => ?_) ?_
              · have c101 : a1.toInt = (4) := c101
                exfalso
                omega
              refine And.intro (fun c102 => ?_) ?_
              · have c102 : a1.toInt = (5) := c102
                exfalso
                omega
              refine And.intro (fun c103 => ?_) ?_
              · have c103 : a1.toInt = (6) := c103
                exfalso
                omega
              exact trivial
            · have c84 : ¬ (¬ v80.toInt = 0) := c84
              refine And.intro (Nat.le_of_ble_eq_true rfl) (And.intro ⟨0, (Int32.ofInt 5), rfl, by decide, i0⟩ ?_)
              intro v104 s106 h105
              have h105 : Iv s106 ∧ Kp s0 s106 ∧ (v104.toInt = -1) := h105
              have i107 := h105.1
              have k108 : Kp s0 s106 := Kx.tr Kx.rf (h105.2.1)
              have q109 := h105.2.2
              show Iv s106 ∧ Kp s0 s106 ∧ (True)
              exact ⟨i107, k108, (trivial)⟩
          refine And.intro (fun c110 => ?_) ?_
          · have c110 : a1.toInt = (3) := c110
            intro v111 e112
            have g113 : s0.1 47 2 = v111 := by rw [e112]
            have b114 : (0 : Int) ≤ v111.toInt ∧ v111.toInt ≤ 48 := by rw [e112]; exact Iv_47_2 i0
            refine And.intro (fun c115 => ?_) (fun c115 => ?_)
            · have c115 : ¬ v111.toInt = 0 := c115
              refine And.intro rfl (And.intro ⟨by omega, by omega⟩ ?_)
              refine And.intro (fun c116 => ?_) ?_
              · have c116 : a1.toInt = (0) := c116
                exfalso
                omega
              refine And.intro (fun c117 => ?_) ?_
              · have c117 : a1.toInt = (1) := c117
                exfalso
                omega
              refine And.intro (fun c118 => ?_) ?_
              · have c118 : a1.toInt = (2) := c118
                exfalso
                omega
              refine And.intro (fun c119 => ?_) ?_
              · have c119 : a1.toInt = (3) := c119
                refine And.intro (Nat.le_of_ble_eq_true rfl) (And.intro ⟨47, a2, rfl, by decide, i0⟩ ?_)
                intro v120 s122 h121
                have h121 : s122 = s0 ∧ (True) := h121
                have q125 := h121.1.symm
                subst q125
                refine And.intro (Nat.le_of_ble_eq_true rfl) (And.intro ⟨0, v120, rfl, by decide, i0⟩ ?_)
                intro v126 s128 h127
                have h127 : Iv s128 ∧ Kp s0 s128 ∧ (v126 = v120 ∧ v126.toInt = v120.toInt) := h127
                have i129 := h127.1
                have k130 : Kp s0 s128 := Kx.tr Kx.rf (h127.2.1)
                have q131 := h127.2.2
                show Iv s128 ∧ Kp s0 s128 ∧ (True)
                exact ⟨i129, k130, (trivial)⟩
              refine And.intro (fun c132 => ?_) ?_
              · have c132 : a1.toInt = (4) := c132
                exfalso
                omega
              refine And.intro (fun c133 => ?_) ?_
              · have c133 : a1.toInt = (5) := c133
                exfalso
                omega
              refine And.intro (fun c134 => ?_) ?_
              · have c134 : a1.toInt = (6) := c134
                exfalso
                omega
              exact trivial
            · have c115 : ¬ (¬ v111.toInt = 0) := c115
              refine And.intro (Nat.le_of_ble_eq_true rfl) (And.intro ⟨0, (Int32.ofInt 5), rfl, by decide, i0⟩ ?_)
              intro v135 s137 h136
              have h136 : Iv s137 ∧ Kp s0 s137 ∧ (v135.toInt = -1) := h136
              have i138 := h136.1
              have k139 : Kp s0 s137 := Kx.tr Kx.rf (h136.2.1)
              have q140 := h136.2.2
              show Iv s137 ∧ Kp s0 s137 ∧ (True)
              exact ⟨i138, k139, (trivial)⟩
          refine And.intro (fun c141 => ?_) ?_
          · have c141 : a1.toInt = (4) := c141
            intro v142 e143
            have g144 : s0.1 49 2 = v142 := by rw [e143]
            have b145 : (0 : Int) ≤ v142.toInt ∧ v142.toInt ≤ 48 := by rw [e143]; exact Iv_49_2 i0
            refine And.intro (fun c146 => ?_) (fun c146 => ?_)
            · have c146 : ¬ v142.toInt = 0 := c146
              refine And.intro rfl (And.intro ⟨by omega, by omega⟩ ?_)
              refine And.intro (fun c147 => ?_) ?_
              · have c147 : a1.toInt = (0) := c147
                exfalso
                omega
              refine And.intro (fun c148 => ?_) ?_
              · have c148 : a1.toInt = (1) := c148
                exfalso
                omega
              refine And.intro (fun c149 => ?_) ?_
              · have c149 : a1.toInt = (2) := c149
                exfalso
                omega
              refine And.intro (fun c150 => ?_) ?_
              · have c150 : a1.toInt = (3) := c150
                exfalso
                omega
              refine And.intro (fun c151 => ?_) ?_
              · have c151 : a1.toInt = (4) := c151
                refine And.intro (Nat.le_of_ble_eq_true rfl) (And.intro ⟨49, a2, rfl, by decide, i0⟩ ?_)
                intro v152 s154 h153
                have h153 : s154 = s0 ∧ (True) := h153
                have q157 := h153.1.symm
                subst q157
                refine And.intro (Nat.le_of_ble_eq_true rfl) (And.intro ⟨0, v152, rfl, by decide, i0⟩ ?_)
                intro v158 s160 h159
                have h159 : Iv s160 ∧ Kp s0 s160 ∧ (v158 = v152 ∧ v158.toInt = v152.toInt) := h159
                have i161 := h159.1
                have k162 : Kp s0 s160 := Kx.tr Kx.rf (h159.2.1)
                have q163 := h159.2.2
                show Iv s160 ∧ Kp s0 s160 ∧ (True)
                exact ⟨i161, k162, (trivial)⟩
              refine And.intro (fun c164 => ?_) ?_
              · have c164 : a1.toInt = (5) := c164
                exfalso
                omega
              refine And.intro (fun c165 => ?_) ?_
              · have c165 : a1.toInt = (6) := c165
                exfalso
                omega
              exact trivial
            · have c146 : ¬ (¬ v142.toInt = 0) := c146
              refine And.intro (Nat.le_of_ble_eq_true rfl) (And.intro ⟨0, (Int32.ofInt 5), rfl, by decide, i0⟩ ?_)
              intro v166 s168 h167
              have h167 : Iv s168 ∧ Kp s0 s168 ∧ (v166.toInt = -1) := h167
              have i169 := h167.1
              have k170 : Kp s0 s168 := Kx.tr Kx.rf (h167.2.1)
              have q171 := h167.2.2
              show Iv s168 ∧ Kp s0 s168 ∧ (True)
              exact ⟨i169, k170, (trivial)⟩
          refine And.intro (fun c172 => ?_) ?_
          · have c172 : a1.toInt = (5) := c172
            intro v173 e174
            have g175 : s0.1 51 2 = v173 := by rw [e174]
            have b176 : (0 : Int) ≤ v173.toInt ∧ v173.toInt ≤ 48 := by rw [e174]; exact Iv_51_2 i0
            refine And.intro (fun c177 => ?_) (fun c177 => ?_)
            · have c177 : ¬ v173.toInt = 0 := c177
              refine And.intro rfl (And.intro ⟨by omega, by omega⟩ ?_)
              refine And.intro (fun c178 => ?_) ?_
              · have c178 : a1.toInt = (0) := c178
                exfalso
                omega
              refine And.intro (fun c179 => ?_) ?_
              · have c179 : a1.toInt = (1) := c179
                exfalso
                omega
              refine And.intro (fun c180 => ?_) ?_
              · have c180 : a1.toInt = (2) := c180
                exfalso
                omega
              refine And.intro (fun c181 => ?_) ?_
              · have c181 : a1.toInt = (3) := c181
                exfalso
                omega
              refine And.intro (fun c182 => ?_) ?_
              · have c182 : a1.toInt = (4) := c182
                exfalso
                omega
              refine And.intro (fun c183 => ?_) ?_
              · have c183 : a1.toInt = (5) := c183
                refine And.intro (Nat.le_of_ble_eq_true rfl) (And.intro ⟨51, a2, rfl, by decide, i0⟩ ?_)
                intro v184 s186 h185
                have h185 : s186 = s0 ∧ (True) := h185
                have q189 := h185.1.symm
                subst q189
                refine And.intro (Nat.le_of_ble_eq_true rfl) (And.intro ⟨0, v184, rfl, by decide, i0⟩ ?_)
                intro v190 s192 h191
                have h191 : Iv s192 ∧ Kp s0 s192 ∧ (v190 = v184 ∧ v190.toInt = v184.toInt) := h191
                have i193 := h191.1
                have k194 : Kp s0 s192 := Kx.tr Kx.rf (h191.2.1)
                have q195 := h191.2.2
                show Iv s192 ∧ Kp s0 s192 ∧ (True)
                exact ⟨i193, k194, (trivial)⟩
              refine And.intro (fun c196 => ?_) ?_
              · have c196 : a1.toInt = (6) := c196
                exfalso
                omega
              exact trivial
            · have c177 : ¬ (¬ v173.toInt = 0) := c177
              refine And.intro (Nat.le_of_ble_eq_true rfl) (And.intro ⟨0, (Int32.ofInt 5), rfl, by decide, i0⟩ ?_)
              intro v197 s199 h198
              have h198 : Iv s199 ∧ Kp s0 s199 ∧ (v197.toInt = -1) := h198
              have i200 := h198.1
              have k201 : Kp s0 s199 := Kx.tr Kx.rf (h198.2.1)
              have q202 := h198.2.2
              show Iv s199 ∧ Kp s0 s199 ∧ (True)
              exact ⟨i200, k201, (trivial)⟩
          refine And.intro (fun c203 => ?_) ?_
          · have c203 : a1.toInt = (6) := c203
            intro v204 e205
            have g206 : s0.1 53 2 = v204 := by rw [e205]
            have b207 : (0 : Int) ≤ v204.toInt ∧ v204.toInt ≤ 48 := by rw [e205]; exact Iv_53_2 i0
            refine And.intro (fun c208 => ?_) (fun c208 => ?_)
            · have c208 : ¬ v204.toInt = 0 := c208
              refine And.intro rfl (And.intro ⟨by omega, by omega⟩ ?_)
              refine And.intro (fun c209 => ?_) ?_
              · have c209 : a1.toInt = (0) := c209
                exfalso
                omega
              refine And.intro (fun c210 => ?_) ?_
              · have c210 : a1.toInt = (1) := c210
                exfalso
                omega
              refine And.intro (fun c211 => ?_) ?_
              · have c211 : a1.toInt = (2) := c211
                exfalso
                omega
              refine And.intro (fun c212 => ?_) ?_
              · have c212 : a1.toInt = (3) := c212
                exfalso
                omega
              refine And.intro (fun c213 => ?_) ?_
              · have c213 : a1.toInt = (4) := c213
                exfalso
                omega
              refine And.intro (fun c214 => ?_) ?_
              · have c214 : a1.toInt = (5) := c214
                exfalso
                omega
              refine And.intro (fun c215 => ?_) ?_
              · have c215 : a1.toInt = (6) := c215
                refine And.intro (Nat.le_of_ble_eq_true rfl) (And.intro ⟨53, a2, rfl, by decide, i0⟩ ?_)
                intro v216 s218 h217
                have h217 : s218 = s0 ∧ (True) := h217
                have q221 := h217.1.symm
                subst q221
                refine And.intro (Nat.le_of_ble_eq_true rfl) (And.intro ⟨0, v216, rfl, by decide, i0⟩ ?_)
                intro v222 s224 h223
                have h223 : Iv s224 ∧ Kp s0 s224 ∧ (v222 = v216 ∧ v222.toInt = v216.toInt) := h223
                have i225 := h223.1
                have k226 : Kp s0 s224 := Kx.tr Kx.rf (h223.2.1)
                have q227 := h223.2.2
                show Iv s224 ∧ Kp s0 s224 ∧ (True)
                exact ⟨i225, k226, (trivial)⟩
              exact trivial
            · have c208 : ¬ (¬ v204.toInt = 0) := c208
              refine And.intro (Nat.le_of_ble_eq_true rfl) (And.intro ⟨0, (Int32.ofInt 5), rfl, by decide, i0⟩ ?_)
              intro v228 s230 h229
              have h229 : Iv s230 ∧ Kp s0 s230 ∧ (v228.toInt = -1) := h229
              have i231 := h229.1
              have k232 : Kp s0 s230 := Kx.tr Kx.rf (h229.2.1)
              have q233 := h229.2.2
              show Iv s230 ∧ Kp s0 s230 ∧ (True)
              exact ⟨i231, k232, (trivial)⟩
          exact trivial
        · have c16 : ¬ (¬ v9.toInt = 0) := c16
          refine And.intro (Nat.le_of_ble_eq_true rfl) (And.intro ⟨0, (Int32.ofInt 2), rfl, by decide, i0⟩ ?_)
          intro v234 s236 h235
          have h235 : Iv s236 ∧ Kp s0 s236 ∧ (v234.toInt = -1) := h235
          have i237 := h235.1
          have k238 : Kp s0 s236 := Kx.tr Kx.rf (h235.2.1)
          have q239 := h235.2.2
          show Iv s236 ∧ Kp s0 s236 ∧ (True)
          exact ⟨i237, k238, (trivial)⟩
      · have c8 : ¬ (¬ v1.toInt = 0) := c8
        refine And.intro (Nat.le_of_ble_eq_true rfl) (And.intro ⟨0, (Int32.ofInt 1), rfl, by decide, i0⟩ ?_)
        intro v240 s242 h241
        have h241 : Iv s242 ∧ Kp s0 s242 ∧ (v240.toInt = -1) := h241
        have i243 := h241.1
        have k244 : Kp s0 s242 := Kx.tr Kx.rf (h241.2.1)
        have q245 := h241.2.2
        show Iv s242 ∧ Kp s0 s242 ∧ (True)
        exact ⟨i243, k244, (trivial)⟩
def o_X10_element : List vg_I := [(0, .iload_n 2, 1, 0, 0, 0, 0), (1, .iconst 0, 1, 0, 0, 0, 0), (2, .iconst 4, 1, 0, 0, 0, 0), (3, .invokestatic 82, 3, 0, 1, 3, 478), (6, .ifCond .ne 9, 3, 0, 0, 0, 0), (9, .aload_n 0, 1, 0, 0, 0, 0), (10, .iconst 1, 1, 0, 0, 0, 0), (11, .invokevirtual 90, 3, 1, 10, 1, 484), (14, .ireturn, 1, 0, 0, 0, 0), (15, .iload_n 1, 1, 0, 0, 0, 0), (16, .iconst 0, 1, 0, 0, 0, 0), (17, .aload_n 0, 1, 0, 0, 0, 0), (18, .getfield 26, 3, 432, 10, 5, 0), (21, .getfield 148, 3, 240, 2, 0, 0), (24, .iconst 1, 1, 0, 0, 0, 0), (25, .isub, 1, 0, 0, 0, 0), (26, .invokestatic 82, 3, 0, 1, 3, 478), (29, .ifCond .ne 9, 3, 0, 0, 0, 0), (32, .aload_n 0, 1, 0, 0, 0, 0), (33, .iconst 2, 1, 0, 0, 0, 0), (34, .invokevirtual 90, 3, 1, 10, 1, 484), (37, .ireturn, 1, 0, 0, 0, 0), (38, .iload_n 2, 1, 0, 0, 0, 0), (39, .tableswitch 84 0 3 #[29, 42, 56, 70], 29, 0, 0, 0, 0), (68, .aload_n 0, 1, 0, 0, 0, 0), (69, .aload_n 0, 1, 0, 0, 0, 0), (70, .getfield 26, 3, 432, 10, 5, 0), (73, .iload_n 1, 1, 0, 0, 0, 0), (74, .invokevirtual 284, 3, 2, 2, 1, 852), (77, .invokevirtual 113, 3, 3, 10, 1, 520), (80, .ireturn, 1, 0, 0, 0, 0), (81, .aload_n 0, 1, 0, 0, 0, 0), (82, .aload_n 0, 1, 0, 0, 0, 0), (83, .getfield 26, 3, 432, 10, 5, 0), (86, .getfield 287, 3, 250, 2, 5, 0), (89, .iload_n 1, 1, 0, 0, 0, 0), (90, .iaload, 1, 0, 0, 0, 0), (91, .invokevirtual 113, 3, 3, 10, 1, 520), (94, .ireturn, 1, 0, 0, 0, 0), (95, .aload_n 0, 1, 0, 0, 0, 0), (96, .aload_n 0, 1, 0, 0, 0, 0), (97, .getfield 26, 3, 432, 10, 5, 0), (100, .getfield 290, 3, 252, 2, 6, 0), (103, .iload_n 1, 1, 0, 0, 0, 0), (104, .iaload, 1, 0, 0, 0, 0), (105, .invokevirtual 113, 3, 3, 10, 1, 520), (108, .ireturn, 1, 0, 0, 0, 0), (109, .aload_n 0, 1, 0, 0, 0, 0), (110, .aload_n 0, 1, 0, 0, 0, 0), (111, .getfield 26, 3, 432, 10, 5, 0), (114, .getfield 293, 3, 254, 2, 7, 0), (117, .iload_n 1, 1, 0, 0, 0, 0), (118, .iaload, 1, 0, 0, 0, 0), (119, .invokevirtual 113, 3, 3, 10, 1, 520), (122, .ireturn, 1, 0, 0, 0, 0), (123, .aload_n 0, 1, 0, 0, 0, 0), (124, .aload_n 0, 1, 0, 0, 0, 0), (125, .getfield 26, 3, 432, 10, 5, 0), (128, .getfield 296, 3, 246, 2, 3, 0), (131, .iload_n 1, 1, 0, 0, 0, 0), (132, .ishr, 1, 0, 0, 0, 0), (133, .iconst 1, 1, 0, 0, 0, 0), (134, .iand, 1, 0, 0, 0, 0), (135, .invokevirtual 113, 3, 3, 10, 1, 520), (138, .ireturn, 1, 0, 0, 0, 0)]
set_option maxRecDepth 100000 in
set_option maxHeartbeats 4000000 in
theorem c_X10_element (l : Launch) (G : vg_G) (hp : vg_Hp G) : vg_Ct l G vg_sh r_X10_element := by
  refine vg_meth hp vg_sh_ok r_X10_element k_X10_element rfl (fun h => by cases h) o_X10_element [r_X10_within, r_X10_refuse, r_X2_weight, r_X10_answer] false (by decide +kernel) (by decide +kernel) ⟨_, _, rfl, rfl⟩ (List.forall_mem_cons.mpr ⟨⟨c_X10_within l G hp, Nat.le_of_ble_eq_true rfl, Nat.le_of_ble_eq_true rfl⟩, List.forall_mem_cons.mpr ⟨⟨c_X10_refuse l G hp, Nat.le_of_ble_eq_true rfl, Nat.le_of_ble_eq_true rfl⟩, List.forall_mem_cons.mpr ⟨⟨c_X2_weight l G hp, Nat.le_of_ble_eq_true rfl, Nat.le_of_ble_eq_true rfl⟩, List.forall_mem_cons.mpr ⟨⟨c_X10_answer l G hp, Nat.le_of_ble_eq_true rfl, Nat.le_of_ble_eq_true rfl⟩, fun _ h => absurd h List.not_mem_nil⟩⟩⟩⟩) (fun h => by cases h) 600 ?_
  intro as s0 hpre
  obtain ⟨r, a1, a2, rfl, hr, i0⟩ := hpre
  simp only [List.mem_cons, List.not_mem_nil, or_false] at hr
  rcases hr with rfl
  ·
    have z0 : (Int32.ofInt 0).toInt = 0 := by decide
    have z1 : (Int32.ofInt 1).toInt = 1 := by decide
    have z2 : (Int32.ofInt 2).toInt = 2 := by decide
    have z4 : (Int32.ofInt 4).toInt = 4 := by decide
    refine ⟨Nat.le_of_ble_eq_true rfl, [], ?_, fun _ h => absurd h List.not_mem_nil⟩
    ·
      refine And.intro (Nat.le_of_ble_eq_true rfl) (And.intro ⟨a2, (Int32.ofInt 0), (Int32.ofInt 4), rfl, trivial⟩ ?_)
      intro v1 s3 h2
      have h2 : s3 = s0 ∧ ((v1.toInt = 1 ∧ (Int32.ofInt 0).toInt ≤ a2.toInt ∧ a2.toInt ≤ (Int32.ofInt 4).toInt) ∨ (v1.toInt = 0 ∧ (a2.toInt < (Int32.ofInt 0).toInt ∨ (Int32.ofInt 4).toInt < a2.toInt))) := h2
      have q6 := h2.1.symm
      subst q6
      have q7 := h2.2
      refine And.intro (fun c8 => ?_) (fun c8 => ?_)
      · have c8 : ¬ v1.toInt = 0 := c8
        intro v9 e10
        have g11 : s0.1 7 0 = v9 := by rw [e10]
        have b12 : (1 : Int) ≤ v9.toInt ∧ v9.toInt ≤ 16 := by rw [e10]; exact Iv_7_0 i0
        intro v13 e14
        have b15 := vg_sub e14 (by omega) (by omega)
        refine And.intro (Nat.le_of_ble_eq_true rfl) (And.intro ⟨a1, (Int32.ofInt 0), v13, rfl, trivial⟩ ?_)
        intro v16 s18 h17
        have h17 : s18 = s0 ∧ ((v16.toInt = 1 ∧ (Int32.ofInt 0).toInt ≤ a1.toInt ∧ a1.toInt ≤ v13.toInt) ∨ (v16.toInt = 0 ∧ (a1.toInt < (Int32.ofInt 0).toInt ∨ v13.toInt < a1.toInt))) := h17
        have q21 := h17.1.symm
        subst q21
        have q22 := h17.2
        refine And.intro (fun c23 => ?_) (fun c23 => ?_)
        · have c23 : ¬ v16.toInt = 0 := c23
          refine And.intro (fun c24 => ?_) ?_
          · have c24 : a2.toInt < (0) ∨ (3) < a2.toInt := c24
            intro v25 e26
            have g27 : s0.1 7 3 = v25 := by rw [e26]
            intro v28 e29
            intro v30 e31
            have b32 := vg_and e31 (by omega)
            refine And.intro (Nat.le_of_ble_eq_true rfl) (And.intro ⟨0, v30, rfl, by decide, i0⟩ ?_)
            intro v33 s35 h34
            have h34 : Iv s35 ∧ Kp s0 s35 ∧ (v33 = v30 ∧ v33.toInt = v30.toInt) := h34
            have i36 := h34.1
            have k37 : Kp s0 s35 := Kx.tr Kx.rf (h34.2.1)
            have q38 := h34.2.2
            show Iv s35 ∧ Kp s0 s35 ∧ (True)
            exact ⟨i36, k37, (trivial)⟩
          refine And.intro (fun c39 => ?_) ?_
          · have c39 : a2.toInt = (0) := c39
            refine And.intro (Nat.le_of_ble_eq_true rfl) (And.intro ⟨7, a1, rfl, by decide, i0, by omega⟩ ?_)
            intro v40 s42 h41
            have h41 : s42 = s0 ∧ (v40 = Int32.ofInt 1000 + s0.1 8 a1.toNatClampNeg) := h41
            have q45 := h41.1.symm
            subst q45
            have q46 := h41.2
            refine And.intro (Nat.le_of_ble_eq_true rfl) (And.intro ⟨0, v40, rfl, by decide, i0⟩ ?_)
            intro v47 s49 h48
            have h48 : Iv s49 ∧ Kp s0 s49 ∧ (v47 = v40 ∧ v47.toInt = v40.toInt) := h48
            have i50 := h48.1
            have k51 : Kp s0 s49 := Kx.tr Kx.rf (h48.2.1)
            have q52 := h48.2.2
            show Iv s49 ∧ Kp s0 s49 ∧ (True)
            exact ⟨i50, k51, (trivial)⟩
          refine And.intro (fun c53 => ?_) ?_
          · have c53 : a2.toInt = (1) := c53
            refine And.intro ⟨by omega, by omega⟩ ?_
            intro v54 e55
            refine And.intro (Nat.le_of_ble_eq_true rfl) (And.intro ⟨0, v54, rfl, by decide, i0⟩ ?_)
            intro v56 s58 h57
            have h57 : Iv s58 ∧ Kp s0 s58 ∧ (v56 = v54 ∧ v56.toInt = v54.toInt) := h57
            have i59 := h57.1
            have k60 : Kp s0 s58 := Kx.tr Kx.rf (h57.2.1)
            have q61 := h57.2.2
            show Iv s58 ∧ Kp s0 s58 ∧ (True)
            exact ⟨i59, k60, (trivial)⟩
          refine And.intro (fun c62 => ?_) ?_
          · have c62 : a2.toInt = (2) := c62
            refine And.intro ⟨by omega, by omega⟩ ?_
            intro v63 e64
            refine And.intro (Nat.le_of_ble_eq_true rfl) (And.intro ⟨0, v63, rfl, by decide, i0⟩ ?_)
            intro v65 s67 h66
            have h66 : Iv s67 ∧ Kp s0 s67 ∧ (v65 = v63 ∧ v65.toInt = v63.toInt) := h66
            have i68 := h66.1
            have k69 : Kp s0 s67 := Kx.tr Kx.rf (h66.2.1)
            have q70 := h66.2.2
            show Iv s67 ∧ Kp s0 s67 ∧ (True)
            exact ⟨i68, k69, (trivial)⟩
          refine And.intro (fun c71 => ?_) ?_
          · have c71 : a2.toInt = (3) := c71
            refine And.intro ⟨by omega, by omega⟩ ?_
            intro v72 e73
            refine And.intro (Nat.le_of_ble_eq_true rfl) (And.intro ⟨0, v72, rfl, by decide, i0⟩ ?_)
            intro v74 s76 h75
            have h75 : Iv s76 ∧ Kp s0 s76 ∧ (v74 = v72 ∧ v74.toInt = v72.toInt) := h75
            have i77 := h75.1
            have k78 : Kp s0 s76 := Kx.tr Kx.rf (h75.2.1)
            have q79 := h75.2.2
            show Iv s76 ∧ Kp s0 s76 ∧ (True)
            exact ⟨i77, k78, (trivial)⟩
          exact trivial
        · have c23 : ¬ (¬ v16.toInt = 0) := c23
          refine And.intro (Nat.le_of_ble_eq_true rfl) (And.intro ⟨0, (Int32.ofInt 2), rfl, by decide, i0⟩ ?_)
          intro v80 s82 h81
          have h81 : Iv s82 ∧ Kp s0 s82 ∧ (v80.toInt = -1) := h81
          have i83 := h81.1
          have k84 : Kp s0 s82 := Kx.tr Kx.rf (h81.2.1)
          have q85 := h81.2.2
          show Iv s82 ∧ Kp s0 s82 ∧ (True)
          exact ⟨i83, k84, (trivial)⟩
      · have c8 : ¬ (¬ v1.toInt = 0) := c8
        refine And.intro (Nat.le_of_ble_eq_true rfl) (And.intro ⟨0, (Int32.ofInt 1), rfl, by decide, i0⟩ ?_)
        intro v86 s88 h87
        have h87 : Iv s88 ∧ Kp s0 s88 ∧ (v86.toInt = -1) := h87
        have i89 := h87.1
        have k90 : Kp s0 s88 := Kx.tr Kx.rf (h87.2.1)
        have q91 := h87.2.2
        show Iv s88 ∧ Kp s0 s88 ∧ (True)
        exact ⟨i89, k90, (trivial)⟩
def o_X10_spread : List vg_I := [(0, .aload_n 0, 1, 0, 0, 0, 0), (1, .aload_n 0, 1, 0, 0, 0, 0), (2, .getfield 26, 3, 432, 10, 5, 0), (5, .invokevirtual 299, 3, 0, 2, 0, 857), (8, .invokevirtual 113, 3, 1, 10, 1, 520), (11, .ireturn, 1, 0, 0, 0, 0)]
set_option maxRecDepth 100000 in
set_option maxHeartbeats 4000000 in
theorem c_X10_spread (l : Launch) (G : vg_G) (hp : vg_Hp G) : vg_Ct l G vg_sh r_X10_spread := by
  refine vg_meth hp vg_sh_ok r_X10_spread k_X10_spread rfl (fun h => by cases h) o_X10_spread [r_X2_unevenness, r_X10_answer] false (by decide +kernel) (by decide +kernel) ⟨_, _, rfl, rfl⟩ (List.forall_mem_cons.mpr ⟨⟨c_X2_unevenness l G hp, Nat.le_of_ble_eq_true rfl, Nat.le_of_ble_eq_true rfl⟩, List.forall_mem_cons.mpr ⟨⟨c_X10_answer l G hp, Nat.le_of_ble_eq_true rfl, Nat.le_of_ble_eq_true rfl⟩, fun _ h => absurd h List.not_mem_nil⟩⟩) (fun h => by cases h) 600 ?_
  intro as s0 hpre
  obtain ⟨r, rfl, hr, i0⟩ := hpre
  simp only [List.mem_cons, List.not_mem_nil, or_false] at hr
  rcases hr with rfl
  ·
    refine ⟨Nat.le_of_ble_eq_true rfl, [], ?_, fun _ h => absurd h List.not_mem_nil⟩
    ·
      refine And.intro (Nat.le_of_ble_eq_true rfl) (And.intro ⟨7, rfl, by decide, i0⟩ ?_)
      intro v1 s3 h2
      have h2 : s3 = s0 ∧ (True) := h2
      have q6 := h2.1.symm
      subst q6
      refine And.intro (Nat.le_of_ble_eq_true rfl) (And.intro ⟨0, v1, rfl, by decide, i0⟩ ?_)
      intro v7 s9 h8
      have h8 : Iv s9 ∧ Kp s0 s9 ∧ (v7 = v1 ∧ v7.toInt = v1.toInt) := h8
      have i10 := h8.1
      have k11 : Kp s0 s9 := Kx.tr Kx.rf (h8.2.1)
      have q12 := h8.2.2
      show Iv s9 ∧ Kp s0 s9 ∧ (True)
      exact ⟨i10, k11, (trivial)⟩
def o_X10_combed : List vg_I := [(0, .iload_n 1, 1, 0, 0, 0, 0), (1, .iconst 0, 1, 0, 0, 0, 0), (2, .iconst 4, 1, 0, 0, 0, 0), (3, .invokestatic 82, 3, 0, 1, 3, 478), (6, .ifCond .ne 9, 3, 0, 0, 0, 0), (9, .aload_n 0, 1, 0, 0, 0, 0), (10, .iconst 1, 1, 0, 0, 0, 0), (11, .invokevirtual 90, 3, 1, 10, 1, 484), (14, .ireturn, 1, 0, 0, 0, 0), (15, .iload_n 1, 1, 0, 0, 0, 0), (16, .aload_n 0, 1, 0, 0, 0, 0), (17, .getfield 33, 3, 433, 10, 6, 0), (20, .getfield 166, 3, 291, 1, 0, 0), (23, .if_icmp .lt 9, 3, 0, 0, 0, 0), (26, .aload_n 0, 1, 0, 0, 0, 0), (27, .iconst 5, 1, 0, 0, 0, 0), (28, .invokevirtual 90, 3, 1, 10, 1, 484), (31, .ireturn, 1, 0, 0, 0, 0), (32, .aload_n 0, 1, 0, 0, 0, 0), (33, .aload_n 0, 1, 0, 0, 0, 0), (34, .getfield 33, 3, 433, 10, 6, 0), (37, .aload_n 0, 1, 0, 0, 0, 0), (38, .getfield 33, 3, 433, 10, 6, 0), (41, .getfield 302, 3, 298, 1, 4, 0), (44, .iload_n 1, 1, 0, 0, 0, 0), (45, .laload, 1, 0, 0, 0, 0), (46, .invokevirtual 306, 3, 2, 1, 1, 867), (49, .invokevirtual 113, 3, 3, 10, 1, 520), (52, .ireturn, 1, 0, 0, 0, 0)]
set_option maxRecDepth 100000 in
set_option maxHeartbeats 4000000 in
theorem c_X10_combed (l : Launch) (G : vg_G) (hp : vg_Hp G) : vg_Ct l G vg_sh r_X10_combed := by
  refine vg_meth hp vg_sh_ok r_X10_combed k_X10_combed rfl (fun h => by cases h) o_X10_combed [r_X10_within, r_X10_refuse, r_X1_cut, r_X10_answer] false (by decide +kernel) (by decide +kernel) ⟨_, _, rfl, rfl⟩ (List.forall_mem_cons.mpr ⟨⟨c_X10_within l G hp, Nat.le_of_ble_eq_true rfl, Nat.le_of_ble_eq_true rfl⟩, List.forall_mem_cons.mpr ⟨⟨c_X10_refuse l G hp, Nat.le_of_ble_eq_true rfl, Nat.le_of_ble_eq_true rfl⟩, List.forall_mem_cons.mpr ⟨⟨c_X1_cut l G hp, Nat.le_of_ble_eq_true rfl, Nat.le_of_ble_eq_true rfl⟩, List.forall_mem_cons.mpr ⟨⟨c_X10_answer l G hp, Nat.le_of_ble_eq_true rfl, Nat.le_of_ble_eq_true rfl⟩, fun _ h => absurd h List.not_mem_nil⟩⟩⟩⟩) (fun h => by cases h) 600 ?_
  intro as s0 hpre
  obtain ⟨r, a1, rfl, hr, i0⟩ := hpre
  simp only [List.mem_cons, List.not_mem_nil, or_false] at hr
  rcases hr with rfl
  ·
    have z0 : (Int32.ofInt 0).toInt = 0 := by decide
    have z1 : (Int32.ofInt 1).toInt = 1 := by decide
    have z4 : (Int32.ofInt 4).toInt = 4 := by decide
    have z5 : (Int32.ofInt 5).toInt = 5 := by decide
    refine ⟨Nat.le_of_ble_eq_true rfl, [], ?_, fun _ h => absurd h List.not_mem_nil⟩
    ·
      refine And.intro (Nat.le_of_ble_eq_true rfl) (And.intro ⟨a1, (Int32.ofInt 0), (Int32.ofInt 4), rfl, trivial⟩ ?_)
      intro v1 s3 h2
      have h2 : s3 = s0 ∧ ((v1.toInt = 1 ∧ (Int32.ofInt 0).toInt ≤ a1.toInt ∧ a1.toInt ≤ (Int32.ofInt 4).toInt) ∨ (v1.toInt = 0 ∧ (a1.toInt < (Int32.ofInt 0).toInt ∨ (Int32.ofInt 4).toInt < a1.toInt))) := h2
      have q6 := h2.1.symm
      subst q6
      have q7 := h2.2
      refine And.intro (fun c8 => ?_) (fun c8 => ?_)
      · have c8 : ¬ v1.toInt = 0 := c8
        intro v9 e10
        have g11 : s0.1 12 0 = v9 := by rw [e10]
        have b12 : (1 : Int) ≤ v9.toInt ∧ v9.toInt ≤ 5 := by rw [e10]; exact Iv_12_0 i0
        refine And.intro (fun c13 => ?_) (fun c13 => ?_)
        · have c13 : a1.toInt < v9.toInt := c13
          refine And.intro ⟨by omega, by omega⟩ ?_
          intro v14 e15
          refine And.intro (Nat.le_of_ble_eq_true rfl) (And.intro ⟨12, v14, rfl, by decide, i0⟩ ?_)
          intro v16 s18 h17
          have h17 : s18 = s0 ∧ (True) := h17
          have q21 := h17.1.symm
          subst q21
          refine And.intro (Nat.le_of_ble_eq_true rfl) (And.intro ⟨0, v16, rfl, by decide, i0⟩ ?_)
          intro v22 s24 h23
          have h23 : Iv s24 ∧ Kp s0 s24 ∧ (v22 = v16 ∧ v22.toInt = v16.toInt) := h23
          have i25 := h23.1
          have k26 : Kp s0 s24 := Kx.tr Kx.rf (h23.2.1)
          have q27 := h23.2.2
          show Iv s24 ∧ Kp s0 s24 ∧ (True)
          exact ⟨i25, k26, (trivial)⟩
        · have c13 : ¬ (a1.toInt < v9.toInt) := c13
          refine And.intro (Nat.le_of_ble_eq_true rfl) (And.intro ⟨0, (Int32.ofInt 5), rfl, by decide, i0⟩ ?_)
          intro v28 s30 h29
          have h29 : Iv s30 ∧ Kp s0 s30 ∧ (v28.toInt = -1) := h29
          have i31 := h29.1
          have k32 : Kp s0 s30 := Kx.tr Kx.rf (h29.2.1)
          have q33 := h29.2.2
          show Iv s30 ∧ Kp s0 s30 ∧ (True)
          exact ⟨i31, k32, (trivial)⟩
      · have c8 : ¬ (¬ v1.toInt = 0) := c8
        refine And.intro (Nat.le_of_ble_eq_true rfl) (And.intro ⟨0, (Int32.ofInt 1), rfl, by decide, i0⟩ ?_)
        intro v34 s36 h35
        have h35 : Iv s36 ∧ Kp s0 s36 ∧ (v34.toInt = -1) := h35
        have i37 := h35.1
        have k38 : Kp s0 s36 := Kx.tr Kx.rf (h35.2.1)
        have q39 := h35.2.2
        show Iv s36 ∧ Kp s0 s36 ∧ (True)
        exact ⟨i37, k38, (trivial)⟩
def o_X10_wrong : List vg_I := [(0, .iload_n 1, 1, 0, 0, 0, 0), (1, .iconst 0, 1, 0, 0, 0, 0), (2, .iconst 1, 1, 0, 0, 0, 0), (3, .invokestatic 82, 3, 0, 1, 3, 478), (6, .ifCond .ne 10, 3, 0, 0, 0, 0), (9, .aload_n 0, 1, 0, 0, 0, 0), (10, .iconst 1, 1, 0, 0, 0, 0), (11, .invokevirtual 90, 3, 1, 10, 1, 484), (14, .i2l, 1, 0, 0, 0, 0), (15, .lreturn, 1, 0, 0, 0, 0), (16, .iload_n 1, 1, 0, 0, 0, 0), (17, .ifCond .ne 16, 3, 0, 0, 0, 0), (20, .aload_n 0, 1, 0, 0, 0, 0), (21, .aload_n 0, 1, 0, 0, 0, 0), (22, .getfield 33, 3, 433, 10, 6, 0), (25, .getfield 310, 3, 302, 1, 7, 0), (28, .i2l, 1, 0, 0, 0, 0), (29, .invokevirtual 239, 3, 2, 10, 1, 800), (32, .lreturn, 1, 0, 0, 0, 0), (33, .aload_n 0, 1, 0, 0, 0, 0), (34, .getfield 52, 3, 436, 10, 9, 0), (37, .iconst 3, 1, 0, 0, 0, 0), (38, .aaload, 1, 0, 0, 0, 0), (39, .getfield 207, 3, 417, 4, 3, 0), (42, .ifCond .ne 10, 3, 0, 0, 0, 0), (45, .aload_n 0, 1, 0, 0, 0, 0), (46, .iconst 5, 1, 0, 0, 0, 0), (47, .invokevirtual 90, 3, 1, 10, 1, 484), (50, .i2l, 1, 0, 0, 0, 0), (51, .lreturn, 1, 0, 0, 0, 0), (52, .aload_n 0, 1, 0, 0, 0, 0), (53, .aload_n 0, 1, 0, 0, 0, 0), (54, .getfield 33, 3, 433, 10, 6, 0), (57, .getfield 313, 3, 304, 1, 8, 0), (60, .aload_n 0, 1, 0, 0, 0, 0), (61, .getfield 33, 3, 433, 10, 6, 0), (64, .invokevirtual 316, 3, 3, 1, 0, 762), (67, .i2l, 1, 0, 0, 0, 0), (68, .lsub, 1, 0, 0, 0, 0), (69, .invokevirtual 239, 3, 2, 10, 1, 800), (72, .lreturn, 1, 0, 0, 0, 0)]
set_option maxRecDepth 100000 in
set_option maxHeartbeats 4000000 in
theorem c_X10_wrong (l : Launch) (G : vg_G) (hp : vg_Hp G) : vg_Ct l G vg_sh r_X10_wrong := by
  refine vg_meth hp vg_sh_ok r_X10_wrong k_X10_wrong rfl (fun h => by cases h) o_X10_wrong [r_X10_within, r_X10_refuse, r_X10_answerLong, r_X1_number] false (by decide +kernel) (by decide +kernel) ⟨_, _, rfl, rfl⟩ (List.forall_mem_cons.mpr ⟨⟨c_X10_within l G hp, Nat.le_of_ble_eq_true rfl, Nat.le_of_ble_eq_true rfl⟩, List.forall_mem_cons.mpr ⟨⟨c_X10_refuse l G hp, Nat.le_of_ble_eq_true rfl, Nat.le_of_ble_eq_true rfl⟩, List.forall_mem_cons.mpr ⟨⟨c_X10_answerLong l G hp, Nat.le_of_ble_eq_true rfl, Nat.le_of_ble_eq_true rfl⟩, List.forall_mem_cons.mpr ⟨⟨c_X1_number l G hp, Nat.le_of_ble_eq_true rfl, Nat.le_of_ble_eq_true rfl⟩, fun _ h => absurd h List.not_mem_nil⟩⟩⟩⟩) (fun h => by cases h) 600 ?_
  intro as s0 hpre
  obtain ⟨r, a1, rfl, hr, i0⟩ := hpre
  simp only [List.mem_cons, List.not_mem_nil, or_false] at hr
  rcases hr with rfl
  ·
    have z0 : (Int32.ofInt 0).toInt = 0 := by decide
    have z1 : (Int32.ofInt 1).toInt = 1 := by decide
    have z3 : (Int32.ofInt 3).toInt = 3 := by decide
    have z5 : (Int32.ofInt 5).toInt = 5 := by decide
    refine ⟨Nat.le_of_ble_eq_true rfl, [], ?_, fun _ h => absurd h List.not_mem_nil⟩
    ·
      refine And.intro (Nat.le_of_ble_eq_true rfl) (And.intro ⟨a1, (Int32.ofInt 0), (Int32.ofInt 1), rfl, trivial⟩ ?_)
      intro v1 s3 h2
      have h2 : s3 = s0 ∧ ((v1.toInt = 1 ∧ (Int32.ofInt 0).toInt ≤ a1.toInt ∧ a1.toInt ≤ (Int32.ofInt 1).toInt) ∨ (v1.toInt = 0 ∧ (a1.toInt < (Int32.ofInt 0).toInt ∨ (Int32.ofInt 1).toInt < a1.toInt))) := h2
      have q6 := h2.1.symm
      subst q6
      have q7 := h2.2
      refine And.intro (fun c8 => ?_) (fun c8 => ?_)
      · have c8 : ¬ v1.toInt = 0 := c8
        refine And.intro (fun c9 => ?_) (fun c9 => ?_)
        · have c9 : ¬ a1.toInt = 0 := c9
          refine And.intro rfl (And.intro ⟨by omega, by omega⟩ ?_)
          refine And.intro (fun c10 => ?_) ?_
          · have c10 : (Int32.ofInt 3).toInt = (0) := c10
            exfalso
            omega
          refine And.intro (fun c11 => ?_) ?_
          · have c11 : (Int32.ofInt 3).toInt = (1) := c11
            exfalso
            omega
          refine And.intro (fun c12 => ?_) ?_
          · have c12 : (Int32.ofInt 3).toInt = (2) := c12
            exfalso
            omega
          refine And.intro (fun c13 => ?_) ?_
          · have c13 : (Int32.ofInt 3).toInt = (3) := c13
            intro v14 e15
            have g16 : s0.1 47 3 = v14 := by rw [e15]
            refine And.intro (fun c17 => ?_) (fun c17 => ?_)
            · have c17 : ¬ v14.toInt = 0 := c17
              intro v18 e19
              refine And.intro (Nat.le_of_ble_eq_true rfl) (And.intro ⟨12, rfl, by decide, i0⟩ ?_)
              intro v20 s22 h21
              have h21 : s22 = s0 ∧ (True) := h21
              have q25 := h21.1.symm
              subst q25
              intro v26 e27
              intro v28 e29
              refine And.intro (Nat.le_of_ble_eq_true rfl) (And.intro ⟨0, v28, rfl, by decide, i0⟩ ?_)
              intro v30 s32 h31
              have h31 : Iv s32 ∧ Kp s0 s32 ∧ (v30 = v28) := h31
              have i33 := h31.1
              have k34 : Kp s0 s32 := Kx.tr Kx.rf (h31.2.1)
              have q35 := h31.2.2
              show Iv s32 ∧ Kp s0 s32 ∧ (True)
              exact ⟨i33, k34, (trivial)⟩
            · have c17 : ¬ (¬ v14.toInt = 0) := c17
              refine And.intro (Nat.le_of_ble_eq_true rfl) (And.intro ⟨0, (Int32.ofInt 5), rfl, by decide, i0⟩ ?_)
              intro v36 s38 h37
              have h37 : Iv s38 ∧ Kp s0 s38 ∧ (v36.toInt = -1) := h37
              have i39 := h37.1
              have k40 : Kp s0 s38 := Kx.tr Kx.rf (h37.2.1)
              have q41 := h37.2.2
              intro v42 e43
              show Iv s38 ∧ Kp s0 s38 ∧ (True)
              exact ⟨i39, k40, (trivial)⟩
          refine And.intro (fun c44 => ?_) ?_
          · have c44 : (Int32.ofInt 3).toInt = (4) := c44
            exfalso
            omega
          refine And.intro (fun c45 => ?_) ?_
          · have c45 : (Int32.ofInt 3).toInt = (5) := c45
            exfalso
            omega
          refine And.intro (fun c46 => ?_) ?_
          · have c46 : (Int32.ofInt 3).toInt = (6) := c46
            exfalso
            omega
          exact trivial
        · have c9 : ¬ (¬ a1.toInt = 0) := c9
          intro v47 e48
          have g49 : s0.1 12 7 = v47 := by rw [e48]
          intro v50 e51
          refine And.intro (Nat.le_of_ble_eq_true rfl) (And.intro ⟨0, v50, rfl, by decide, i0⟩ ?_)
          intro v52 s54 h53
          have h53 : Iv s54 ∧ Kp s0 s54 ∧ (v52 = v50) := h53
          have i55 := h53.1
          have k56 : Kp s0 s54 := Kx.tr Kx.rf (h53.2.1)
          have q57 := h53.2.2
          show Iv s54 ∧ Kp s0 s54 ∧ (True)
          exact ⟨i55, k56, (trivial)⟩
      · have c8 : ¬ (¬ v1.toInt = 0) := c8
        refine And.intro (Nat.le_of_ble_eq_true rfl) (And.intro ⟨0, (Int32.ofInt 1), rfl, by decide, i0⟩ ?_)
        intro v58 s60 h59
        have h59 : Iv s60 ∧ Kp s0 s60 ∧ (v58.toInt = -1) := h59
        have i61 := h59.1
        have k62 : Kp s0 s60 := Kx.tr Kx.rf (h59.2.1)
        have q63 := h59.2.2
        intro v64 e65
        show Iv s60 ∧ Kp s0 s60 ∧ (True)
        exact ⟨i61, k62, (trivial)⟩
def o_X10_work : List vg_I := [(0, .iload_n 2, 1, 0, 0, 0, 0), (1, .iconst 0, 1, 0, 0, 0, 0), (2, .iconst 1, 1, 0, 0, 0, 0), (3, .invokestatic 82, 3, 0, 1, 3, 478), (6, .ifCond .ne 9, 3, 0, 0, 0, 0), (9, .aload_n 0, 1, 0, 0, 0, 0), (10, .iconst 1, 1, 0, 0, 0, 0), (11, .invokevirtual 90, 3, 1, 10, 1, 484), (14, .ireturn, 1, 0, 0, 0, 0), (15, .iload_n 1, 1, 0, 0, 0, 0), (16, .iconst 0, 1, 0, 0, 0, 0), (17, .aload_n 0, 1, 0, 0, 0, 0), (18, .getfield 196, 3, 429, 10, 2, 0), (21, .iconst 1, 1, 0, 0, 0, 0), (22, .isub, 1, 0, 0, 0, 0), (23, .invokestatic 82, 3, 0, 1, 3, 478), (26, .ifCond .ne 9, 3, 0, 0, 0, 0), (29, .aload_n 0, 1, 0, 0, 0, 0), (30, .iconst 2, 1, 0, 0, 0, 0), (31, .invokevirtual 90, 3, 1, 10, 1, 484), (34, .ireturn, 1, 0, 0, 0, 0), (35, .aload_n 0, 1, 0, 0, 0, 0), (36, .getfield 46, 3, 435, 10, 8, 0), (39, .iload_n 1, 1, 0, 0, 0, 0), (40, .aaload, 1, 0, 0, 0, 0), (41, .getfield 199, 3, 394, 3, 0, 0), (44, .istore_n 3, 1, 0, 0, 0, 0), (45, .iload_n 2, 1, 0, 0, 0, 0), (46, .ifCond .ne 14, 3, 0, 0, 0, 0), (49, .aload_n 0, 1, 0, 0, 0, 0), (50, .getfield 40, 3, 434, 10, 7, 0), (53, .iload_n 3, 1, 0, 0, 0, 0), (54, .invokevirtual 319, 3, 2, 8, 1, 876), (57, .goto 11, 3, 0, 0, 0, 0), (60, .aload_n 0, 1, 0, 0, 0, 0), (61, .getfield 40, 3, 434, 10, 7, 0), (64, .iload_n 3, 1, 0, 0, 0, 0), (65, .invokevirtual 322, 3, 3, 8, 1, 884), (68, .istore 4, 2, 0, 0, 0, 0), (70, .aload_n 0, 1, 0, 0, 0, 0), (71, .iload 4, 2, 0, 0, 0, 0), (73, .aload_n 0, 1, 0, 0, 0, 0), (74, .getfield 52, 3, 436, 10, 9, 0), (77, .iconst 4, 1, 0, 0, 0, 0), (78, .iload_n 1, 1, 0, 0, 0, 0), (79, .iadd, 1, 0, 0, 0, 0), (80, .aaload, 1, 0, 0, 0, 0), (81, .getfield 207, 3, 417, 4, 3, 0), (84, .imul, 1, 0, 0, 0, 0), (85, .invokevirtual 113, 3, 4, 10, 1, 520), (88, .ireturn, 1, 0, 0, 0, 0)]
set_option maxRecDepth 100000 in
set_option maxHeartbeats 4000000 in
theorem c_X10_work (l : Launch) (G : vg_G) (hp : vg_Hp G) : vg_Ct l G vg_sh r_X10_work := by
  refine vg_meth hp vg_sh_ok r_X10_work k_X10_work rfl (fun h => by cases h) o_X10_work [r_X10_within, r_X10_refuse, r_X8_plainOf, r_X8_foldedOf, r_X10_answer] false (by decide +kernel) (by decide +kernel) ⟨_, _, rfl, rfl⟩ (List.forall_mem_cons.mpr ⟨⟨c_X10_within l G hp, Nat.le_of_ble_eq_true rfl, Nat.le_of_ble_eq_true rfl⟩, List.forall_mem_cons.mpr ⟨⟨c_X10_refuse l G hp, Nat.le_of_ble_eq_true rfl, Nat.le_of_ble_eq_true rfl⟩, List.forall_mem_cons.mpr ⟨⟨c_X8_plainOf l G hp, Nat.le_of_ble_eq_true rfl, Nat.le_of_ble_eq_true rfl⟩, List.forall_mem_cons.mpr ⟨⟨c_X8_foldedOf l G hp, Nat.le_of_ble_eq_true rfl, Nat.le_of_ble_eq_true rfl⟩, List.forall_mem_cons.mpr ⟨⟨c_X10_answer l G hp, Nat.le_of_ble_eq_true rfl, Nat.le_of_ble_eq_true rfl⟩, fun _ h => absurd h List.not_mem_nil⟩⟩⟩⟩⟩) (fun h => by cases h) 600 ?_
  intro as s0 hpre
  obtain ⟨r, a1, a2, rfl, hr, i0⟩ := hpre
  simp only [List.mem_cons, List.not_mem_nil, or_false] at hr
  rcases hr with rfl
  ·
    have z0 : (Int32.ofInt 0).toInt = 0 := by decide
    have z1 : (Int32.ofInt 1).toInt = 1 := by decide
    have z2 : (Int32.ofInt 2).toInt = 2 := by decide
    have z4 : (Int32.ofInt 4).toInt = 4 := by decide
    refine ⟨Nat.le_of_ble_eq_true rfl, [], ?_, fun _ h => absurd h List.not_mem_nil⟩
    ·
      refine And.intro (Nat.le_of_ble_eq_true rfl) (And.intro ⟨a2, (Int32.ofInt 0), (Int32.ofInt 1), rfl, trivial⟩ ?_)
      intro v1 s3 h2
      have h2 : s3 = s0 ∧ ((v1.toInt = 1 ∧ (Int32.ofInt 0).toInt ≤ a2.toInt ∧ a2.toInt ≤ (Int32.ofInt 1).toInt) ∨ (v1.toInt = 0 ∧ (a2.toInt < (Int32.ofInt 0).toInt ∨ (Int32.ofInt 1).toInt < a2.toInt))) := h2
      have q6 := h2.1.symm
      subst q6
      have q7 := h2.2
      refine And.intro (fun c8 => ?_) (fun c8 => ?_)
      · have c8 : ¬ v1.toInt = 0 := c8
        intro v9 e10
        have g11 : s0.1 0 2 = v9 := by rw [e10]
        have b12 : (0 : Int) ≤ v9.toInt ∧ v9.toInt ≤ 3 := by rw [e10]; exact Iv_0_2 i0
        intro v13 e14
        have b15 := vg_sub e14 (by omega) (by omega)
        refine And.intro (Nat.le_of_ble_eq_true rfl) (And.intro ⟨a1, (Int32.ofInt 0), v13, rfl, trivial⟩ ?_)
        intro v16 s18 h17
        have h17 : s18 = s0 ∧ ((v16.toInt = 1 ∧ (Int32.ofInt 0).toInt ≤ a1.toInt ∧ a1.toInt ≤ v13.toInt) ∨ (v16.toInt = 0 ∧ (a1.toInt < (Int32.ofInt 0).toInt ∨ v13.toInt < a1.toInt))) := h17
        have q21 := h17.1.symm
        subst q21
        have q22 := h17.2
        refine And.intro (fun c23 => ?_) (fun c23 => ?_)
        · have c23 : ¬ v16.toInt = 0 := c23
          refine And.intro rfl (And.intro ⟨by omega, by omega⟩ ?_)
          refine And.intro (fun c24 => ?_) ?_
          · have c24 : a1.toInt = (0) := c24
            intro v25 e26
            have g27 : s0.1 35 0 = v25 := by rw [e26]
            refine And.intro (fun c28 => ?_) (fun c28 => ?_)
            · have c28 : ¬ a2.toInt = 0 := c28
              refine And.intro (Nat.le_of_ble_eq_true rfl) (And.intro ⟨16, v25, rfl, by decide, i0⟩ ?_)
              intro v29 s31 h30
              have h30 : s31 = s0 ∧ (True) := h30
              have q34 := h30.1.symm
              subst q34
              intro v35 e36
              have b37 := vg_add e36 (by omega) (by omega)
              refine And.intro rfl (And.intro ⟨by omega, by omega⟩ ?_)
              refine And.intro (fun c38 => ?_) ?_
              · have c38 : v35.toInt = (0) := c38
                exfalso
                omega
              refine And.intro (fun c39 => ?_) ?_
              · have c39 : v35.toInt = (1) := c39
                exfalso
                omega
              refine And.intro (fun c40 => ?_) ?_
              · have c40 : v35.toInt = (2) := c40
                exfalso
                omega
              refine And.intro (fun c41 => ?_) ?_
              · have c41 : v35.toInt = (3) := c41
                exfalso
                omega
              refine And.intro (fun c42 => ?_) ?_
              · have c42 : v35.toInt = (4) := c42
                intro v43 e44
                have g45 : s0.1 49 3 = v43 := by rw [e44]
                intro v46 e47
                refine And.intro (Nat.le_of_ble_eq_true rfl) (And.intro ⟨0, v46, rfl, by decide, i0⟩ ?_)
                intro v48 s50 h49
                have h49 : Iv s50 ∧ Kp s0 s50 ∧ (v48 = v46 ∧ v48.toInt = v46.toInt) := h49
                have i51 := h49.1
                have k52 : Kp s0 s50 := Kx.tr Kx.rf (h49.2.1)
                have q53 := h49.2.2
                show Iv s50 ∧ Kp s0 s50 ∧ (True)
                exact ⟨i51, k52, (trivial)⟩
              refine And.intro (fun c54 => ?_) ?_
              · have c54 : v35.toInt = (5) := c54
                exfalso
                omega
              refine And.intro (fun c55 => ?_) ?_
              · have c55 : v35.toInt = (6) := c55
                exfalso
                omega
              exact trivial
            · have c28 : ¬ (¬ a2.toInt = 0) := c28
              refine And.intro (Nat.le_of_ble_eq_true rfl) (And.intro ⟨16, v25, rfl, by decide, i0⟩ ?_)
              intro v56 s58 h57
              have h57 : s58 = s0 ∧ (v56 = vg_cnt (vg_rw s0 (vg_rp v25)) (vg_tn v25)) := h57
              have q61 := h57.1.symm
              subst q61
              have q62 := h57.2
              intro v63 e64
              have b65 := vg_add e64 (by omega) (by omega)
              refine And.intro rfl (And.intro ⟨by omega, by omega⟩ ?_)
              refine And.intro (fun c66 => ?_) ?_
              · have c66 : v63.toInt = (0) := c66
                exfalso
                omega
              refine And.intro (fun c67 => ?_) ?_
              · have c67 : v63.toInt = (1) := c67
                exfalso
                omega
              refine And.intro (fun c68 => ?_) ?_
              · have c68 : v63.toInt = (2) := c68
                exfalso
                omega
              refine And.intro (fun c69 => ?_) ?_
              · have c69 : v63.toInt = (3) := c69
                exfalso
                omega
              refine And.intro (fun c70 => ?_) ?_
              · have c70 : v63.toInt = (4) := c70
                intro v71 e72
                have g73 : s0.1 49 3 = v71 := by rw [e72]
                intro v74 e75
                refine And.intro (Nat.le_of_ble_eq_true rfl) (And.intro ⟨0, v74, rfl, by decide, i0⟩ ?_)
                intro v76 s78 h77
                have h77 : Iv s78 ∧ Kp s0 s78 ∧ (v76 = v74 ∧ v76.toInt = v74.toInt) := h77
                have i79 := h77.1
                have k80 : Kp s0 s78 := Kx.tr Kx.rf (h77.2.1)
                have q81 := h77.2.2
                show Iv s78 ∧ Kp s0 s78 ∧ (True)
                exact ⟨i79, k80, (trivial)⟩
              refine And.intro (fun c82 => ?_) ?_
              · have c82 : v63.toInt = (5) := c82
                exfalso
                omega
              refine And.intro (fun c83 => ?_) ?_
              · have c83 : v63.toInt = (6) := c83
                exfalso
                omega
              exact trivial
          refine And.intro (fun c84 => ?_) ?_
          · have c84 : a1.toInt = (1) := c84
            intro v85 e86
            have g87 : s0.1 37 0 = v85 := by rw [e86]
            refine And.intro (fun c88 => ?_) (fun c88 => ?_)
            · have c88 : ¬ a2.toInt = 0 := c88
              refine And.intro (Nat.le_of_ble_eq_true rfl) (And.intro ⟨16, v85, rfl, by decide, i0⟩ ?_)
              intro v89 s91 h90
              have h90 : s91 = s0 ∧ (True) := h90
              have q94 := h90.1.symm
              subst q94
              intro v95 e96
              have b97 := vg_add e96 (by omega) (by omega)
              refine And.intro rfl (And.intro ⟨by omega, by omega⟩ ?_)
              refine And.intro (fun c98 => ?_) ?_
              · have c98 : v95.toInt = (0) := c98
                exfalso
                omega
              refine And.intro (fun c99 => ?_) ?_
              · have c99 : v95.toInt = (1) := c99
                exfalso
                omega
              refine And.intro (fun c100 => ?_) ?_
              · have c100 : v95.toInt = (2) := c100
                exfalso
                omega
              refine And.intro (fun c101 => ?_) ?_
              · have c101 : v95.toInt = (3) := c101
                exfalso
                omega
              refine And.intro (fun c102 => ?_) ?_
              · have c102 : v95.toInt = (4) := c102
                exfalso
                omega
              refine And.intro (fun c103 => ?_) ?_
              · have c103 : v95.toInt = (5) := c103
                intro v104 e105
                have g106 : s0.1 51 3 = v104 := by rw [e105]
                intro v107 e108
                refine And.intro (Nat.le_of_ble_eq_true rfl) (And.intro ⟨0, v107, rfl, by decide, i0⟩ ?_)
                intro v109 s111 h110
                have h110 : Iv s111 ∧ Kp s0 s111 ∧ (v109 = v107 ∧ v109.toInt = v107.toInt) := h110
                have i112 := h110.1
                have k113 : Kp s0 s111 := Kx.tr Kx.rf (h110.2.1)
                have q114 := h110.2.2
                show Iv s111 ∧ Kp s0 s111 ∧ (True)
                exact ⟨i112, k113, (trivial)⟩
              refine And.intro (fun c115 => ?_) ?_
              · have c115 : v95.toInt = (6) := c115
                exfalso
                omega
              exact trivial
            · have c88 : ¬ (¬ a2.toInt = 0) := c88
              refine And.intro (Nat.le_of_ble_eq_true rfl) (And.intro ⟨16, v85, rfl, by decide, i0⟩ ?_)
              intro v116 s118 h117
              have h117 : s118 = s0 ∧ (v116 = vg_cnt (vg_rw s0 (vg_rp v85)) (vg_tn v85)) := h117
              have q121 := h117.1.symm
              subst q121
              have q122 := h117.2
              intro v123 e124
              have b125 := vg_add e124 (by omega) (by omega)
              refine And.intro rfl (And.intro ⟨by omega, by omega⟩ ?_)
              refine And.intro (fun c126 => ?_) ?_
              · have c126 : v123.toInt = (0) := c126
                exfalso
                omega
              refine And.intro (fun c127 => ?_) ?_
              · have c127 : v123.toInt = (1) := c127
                exfalso
                omega
              refine And.intro (fun c128 => ?_) ?_
              · have c128 : v123.toInt = (2) := c128
                exfalso
                omega
              refine And.intro (fun c129 => ?_) ?_
              · have c129 : v123.toInt = (3) := c129
                exfalso
                omega
              refine And.intro (fun c130 => ?_) ?_
              · have c130 : v123.toInt = (4) := c130
                exfalso
                omega
              refine And.intro (fun c131 => ?_) ?_
              · have c131 : v123.toInt = (5) := c131
                intro v132 e133
                have g134 : s0.1 51 3 = v132 := by rw [e133]
                intro v135 e136
                refine And.intro (Nat.le_of_ble_eq_true rfl) (And.intro ⟨0, v135, rfl, by decide, i0⟩ ?_)
                intro v137 s139 h138
                have h138 : Iv s139 ∧ Kp s0 s139 ∧ (v137 = v135 ∧ v137.toInt = v135.toInt) := h138
                have i140 := h138.1
                have k141 : Kp s0 s139 := Kx.tr Kx.rf (h138.2.1)
                have q142 := h138.2.2
                show Iv s139 ∧ Kp s0 s139 ∧ (True)
                exact ⟨i140, k141, (trivial)⟩
              refine And.intro (fun c143 => ?_) ?_
              · have c143 : v123.toInt = (6) := c143
                exfalso
                omega
              exact trivial
          refine And.intro (fun c144 => ?_) ?_
          · have c144 : a1.toInt = (2) := c144
            intro v145 e146
            have g147 : s0.1 39 0 = v145 := by rw [e146]
            refine And.intro (fun c148 => ?_) (fun c148 => ?_)
            · have c148 : ¬ a2.toInt = 0 := c148
              refine And.intro (Nat.le_of_ble_eq_true rfl) (And.intro ⟨16, v145, rfl, by decide, i0⟩ ?_)
              intro v149 s151 h150
              have h150 : s151 = s0 ∧ (True) := h150
              have q154 := h150.1.symm
              subst q154
              intro v155 e156
              have b157 := vg_add e156 (by omega) (by omega)
              refine And.intro rfl (And.intro ⟨by omega, by omega⟩ ?_)
              refine And.intro (fun c158 => ?_) ?_
              · have c158 : v155.toInt = (0) := c158
                exfalso
                omega
              refine And.intro (fun c159 => ?_) ?_
              · have c159 : v155.toInt = (1) := c159
                exfalso
                omega
              refine And.intro (fun c160 => ?_) ?_
              · have c160 : v155.toInt = (2) := c160
                exfalso
                omega
              refine And.intro (fun c161 => ?_) ?_
              · have c161 : v155.toInt = (3) := c161
                exfalso
                omega
              refine And.intro (fun c162 => ?_) ?_
              · have c162 : v155.toInt = (4) := c162
                exfalso
                omega
              refine And.intro (fun c163 => ?_) ?_
              · have c163 : v155.toInt = (5) := c163
                exfalso
                omega
              refine And.intro (fun c164 => ?_) ?_
              · have c164 : v155.toInt = (6) := c164
                intro v165 e166
                have g167 : s0.1 53 3 = v165 := by rw [e166]
                intro v168 e169
                refine And.intro (Nat.le_of_ble_eq_true rfl) (And.intro ⟨0, v168, rfl, by decide, i0⟩ ?_)
                intro v170 s172 h171
                have h171 : Iv s172 ∧ Kp s0 s172 ∧ (v170 = v168 ∧ v170.toInt = v168.toInt) := h171
                have i173 := h171.1
                have k174 : Kp s0 s172 := Kx.tr Kx.rf (h171.2.1)
                have q175 := h171.2.2
                show Iv s172 ∧ Kp s0 s172 ∧ (True)
                exact ⟨i173, k174, (trivial)⟩
              exact trivial
            · have c148 : ¬ (¬ a2.toInt = 0) := c148
              refine And.intro (Nat.le_of_ble_eq_true rfl) (And.intro ⟨16, v145, rfl, by decide, i0⟩ ?_)
              intro v176 s178 h177
              have h177 : s178 = s0 ∧ (v176 = vg_cnt (vg_rw s0 (vg_rp v145)) (vg_tn v145)) := h177
              have q181 := h177.1.symm
              subst q181
              have q182 := h177.2
              intro v183 e184
              have b185 := vg_add e184 (by omega) (by omega)
              refine And.intro rfl (And.intro ⟨by omega, by omega⟩ ?_)
              refine And.intro (fun c186 => ?_) ?_
              · have c186 : v183.toInt = (0) := c186
                exfalso
                omega
              refine And.intro (fun c187 => ?_) ?_
              · have c187 : v183.toInt = (1) := c187
                exfalso
                omega
              refine And.intro (fun c188 => ?_) ?_
              · have c188 : v183.toInt = (2) := c188
                exfalso
                omega
              refine And.intro (fun c189 => ?_) ?_
              · have c189 : v183.toInt = (3) := c189
                exfalso
                omega
              refine And.intro (fun c190 => ?_) ?_
              · have c190 : v183.toInt = (4) := c190
                exfalso
                omega
              refine And.intro (fun c191 => ?_) ?_
              · have c191 : v183.toInt = (5) := c191
                exfalso
                omega
              refine And.intro (fun c192 => ?_) ?_
              · have c192 : v183.toInt = (6) := c192
                intro v193 e194
                have g195 : s0.1 53 3 = v193 := by rw [e194]
                intro v196 e197
                refine And.intro (Nat.le_of_ble_eq_true rfl) (And.intro ⟨0, v196, rfl, by decide, i0⟩ ?_)
                intro v198 s200 h199
                have h199 : Iv s200 ∧ Kp s0 s200 ∧ (v198 = v196 ∧ v198.toInt = v196.toInt) := h199
                have i201 := h199.1
                have k202 : Kp s0 s200 := Kx.tr Kx.rf (h199.2.1)
                have q203 := h199.2.2
                show Iv s200 ∧ Kp s0 s200 ∧ (True)
                exact ⟨i201, k202, (trivial)⟩
              exact trivial
          exact trivial
        · have c23 : ¬ (¬ v16.toInt = 0) := c23
          refine And.intro (Nat.le_of_ble_eq_true rfl) (And.intro ⟨0, (Int32.ofInt 2), rfl, by decide, i0⟩ ?_)
          intro v204 s206 h205
          have h205 : Iv s206 ∧ Kp s0 s206 ∧ (v204.toInt = -1) := h205
          have i207 := h205.1
          have k208 : Kp s0 s206 := Kx.tr Kx.rf (h205.2.1)
          have q209 := h205.2.2
          show Iv s206 ∧ Kp s0 s206 ∧ (True)
          exact ⟨i207, k208, (trivial)⟩
      · have c8 : ¬ (¬ v1.toInt = 0) := c8
        refine And.intro (Nat.le_of_ble_eq_true rfl) (And.intro ⟨0, (Int32.ofInt 1), rfl, by decide, i0⟩ ?_)
        intro v210 s212 h211
        have h211 : Iv s212 ∧ Kp s0 s212 ∧ (v210.toInt = -1) := h211
        have i213 := h211.1
        have k214 : Kp s0 s212 := Kx.tr Kx.rf (h211.2.1)
        have q215 := h211.2.2
        show Iv s212 ∧ Kp s0 s212 ∧ (True)
        exact ⟨i213, k214, (trivial)⟩
def o_X10_beat : List vg_I := [(0, .iload_n 2, 1, 0, 0, 0, 0), (1, .iconst 0, 1, 0, 0, 0, 0), (2, .bipush 47, 2, 0, 0, 0, 0), (4, .invokestatic 82, 3, 0, 1, 3, 478), (7, .ifCond .ne 10, 3, 0, 0, 0, 0), (10, .aload_n 0, 1, 0, 0, 0, 0), (11, .iconst 1, 1, 0, 0, 0, 0), (12, .invokevirtual 90, 3, 1, 10, 1, 484), (15, .i2l, 1, 0, 0, 0, 0), (16, .lreturn, 1, 0, 0, 0, 0), (17, .iload_n 1, 1, 0, 0, 0, 0), (18, .iconst 0, 1, 0, 0, 0, 0), (19, .iconst 2, 1, 0, 0, 0, 0), (20, .invokestatic 82, 3, 0, 1, 3, 478), (23, .ifCond .ne 10, 3, 0, 0, 0, 0), (26, .aload_n 0, 1, 0, 0, 0, 0), (27, .iconst 2, 1, 0, 0, 0, 0), (28, .invokevirtual 90, 3, 1, 10, 1, 484), (31, .i2l, 1, 0, 0, 0, 0), (32, .lreturn, 1, 0, 0, 0, 0), (33, .aload_n 0, 1, 0, 0, 0, 0), (34, .getfield 52, 3, 436, 10, 9, 0), (37, .iload_n 1, 1, 0, 0, 0, 0), (38, .aaload, 1, 0, 0, 0, 0), (39, .getfield 210, 3, 415, 4, 2, 0), (42, .iload_n 2, 1, 0, 0, 0, 0), (43, .if_icmp .gt 10, 3, 0, 0, 0, 0), (46, .aload_n 0, 1, 0, 0, 0, 0), (47, .iconst 5, 1, 0, 0, 0, 0), (48, .invokevirtual 90, 3, 1, 10, 1, 484), (51, .i2l, 1, 0, 0, 0, 0), (52, .lreturn, 1, 0, 0, 0, 0), (53, .aload_n 0, 1, 0, 0, 0, 0), (54, .aload_n 0, 1, 0, 0, 0, 0), (55, .getfield 52, 3, 436, 10, 9, 0), (58, .iload_n 1, 1, 0, 0, 0, 0), (59, .aaload, 1, 0, 0, 0, 0), (60, .iload_n 2, 1, 0, 0, 0, 0), (61, .invokevirtual 338, 3, 2, 4, 1, 923), (64, .invokevirtual 239, 3, 3, 10, 1, 800), (67, .lreturn, 1, 0, 0, 0, 0)]
set_option maxRecDepth 100000 in
set_option maxHeartbeats 4000000 in
theorem c_X10_beat (l : Launch) (G : vg_G) (hp : vg_Hp G) : vg_Ct l G vg_sh r_X10_beat := by
  refine vg_meth hp vg_sh_ok r_X10_beat k_X10_beat rfl (fun h => by cases h) o_X10_beat [r_X10_within, r_X10_refuse, r_X4_beatOf, r_X10_answerLong] false (by decide +kernel) (by decide +kernel) ⟨_, _, rfl, rfl⟩ (List.forall_mem_cons.mpr ⟨⟨c_X10_within l G hp, Nat.le_of_ble_eq_true rfl, Nat.le_of_ble_eq_true rfl⟩, List.forall_mem_cons.mpr ⟨⟨c_X10_refuse l G hp, Nat.le_of_ble_eq_true rfl, Nat.le_of_ble_eq_true rfl⟩, List.forall_mem_cons.mpr ⟨⟨c_X4_beatOf l G hp, Nat.le_of_ble_eq_true rfl, Nat.le_of_ble_eq_true rfl⟩, List.forall_mem_cons.mpr ⟨⟨c_X10_answerLong l G hp, Nat.le_of_ble_eq_true rfl, Nat.le_of_ble_eq_true rfl⟩, fun _ h => absurd h List.not_mem_nil⟩⟩⟩⟩) (fun h => by cases h) 600 ?_
  intro as s0 hpre
  obtain ⟨r, a1, a2, rfl, hr, i0⟩ := hpre
  simp only [List.mem_cons, List.not_mem_nil, or_false] at hr
  rcases hr with rfl
  ·
    have z0 : (Int32.ofInt 0).toInt = 0 := by decide
    have z1 : (Int32.ofInt 1).toInt = 1 := by decide
    have z2 : (Int32.ofInt 2).toInt = 2 := by decide
    have z5 : (Int32.ofInt 5).toInt = 5 := by decide
    have z47 : (Int32.ofInt 47).toInt = 47 := by decide
    refine ⟨Nat.le_of_ble_eq_true rfl, [], ?_, fun _ h => absurd h List.not_mem_nil⟩
    ·
      refine And.intro (Nat.le_of_ble_eq_true rfl) (And.intro ⟨a2, (Int32.ofInt 0), (Int32.ofInt 47), rfl, trivial⟩ ?_)
      intro v1 s3 h2
      have h2 : s3 = s0 ∧ ((v1.toInt = 1 ∧ (Int32.ofInt 0).toInt ≤ a2.toInt ∧ a2.toInt ≤ (Int32.ofInt 47).toInt) ∨ (v1.toInt = 0 ∧ (a2.toInt < (Int32.ofInt 0).toInt ∨ (Int32.ofInt 47).toInt < a2.toInt))) := h2
      have q6 := h2.1.symm
      subst q6
      have q7 := h2.2
      refine And.intro (fun c8 => ?_) (fun c8 => ?_)
      · have c8 : ¬ v1.toInt = 0 := c8
        refine And.intro (Nat.le_of_ble_eq_true rfl) (And.intro ⟨a1, (Int32.ofInt 0), (Int32.ofInt 2), rfl, trivial⟩ ?_)
        intro v9 s11 h10
        have h10 : s11 = s0 ∧ ((v9.toInt = 1 ∧ (Int32.ofInt 0).toInt ≤ a1.toInt ∧ a1.toInt ≤ (Int32.ofInt 2).toInt) ∨ (v9.toInt = 0 ∧ (a1.toInt < (Int32.ofInt 0).toInt ∨ (Int32.ofInt 2).toInt < a1.toInt))) := h10
        have q14 := h10.1.symm
        subst q14
        have q15 := h10.2
        refine And.intro (fun c16 => ?_) (fun c16 => ?_)
        · have c16 : ¬ v9.toInt = 0 := c16
          refine And.intro rfl (And.intro ⟨by omega, by omega⟩ ?_)
          refine And.intro (fun c17 => ?_) ?_
          · have c17 : a1.toInt = (0) := c17
            intro v18 e19
            have g20 : s0.1 41 2 = v18 := by rw [e19]
            have b21 : (0 : Int) ≤ v18.toInt ∧ v18.toInt ≤ 48 := by rw [e19]; exact Iv_41_2 i0
            refine And.intro (fun c22 => ?_) (fun c22 => ?_)
            · have c22 : a2.toInt < v18.toInt := c22
              refine And.intro rfl (And.intro ⟨by omega, by omega⟩ ?_)
              refine And.intro (fun c23 => ?_) ?_
              · have c23 : a1.toInt = (0) := c23
                refine And.intro (Nat.le_of_ble_eq_true rfl) (And.intro ⟨41, a2, rfl, by decide, i0, by omega⟩ ?_)
                intro v24 s26 h25
                have h25 : s26 = s0 ∧ (True) := h25
                have q29 := h25.1.symm
                subst q29
                refine And.intro (Nat.le_of_ble_eq_true rfl) (And.intro ⟨0, v24, rfl, by decide, i0⟩ ?_)
                intro v30 s32 h31
                have h31 : Iv s32 ∧ Kp s0 s32 ∧ (v30 = v24) := h31
                have i33 := h31.1
                have k34 : Kp s0 s32 := Kx.tr Kx.rf (h31.2.1)
                have q35 := h31.2.2
                show Iv s32 ∧ Kp s0 s32 ∧ (True)
                exact ⟨i33, k34, (trivial)⟩
              refine And.intro (fun c36 => ?_) ?_
              · have c36 : a1.toInt = (1) := c36
                exfalso
                omega
              refine And.intro (fun c37 => ?_) ?_
              · have c37 : a1.toInt = (2) := c37
                exfalso
                omega
              refine And.intro (fun c38 => ?_) ?_
              · have c38 : a1.toInt = (3) := c38
                exfalso
                omega
              refine And.intro (fun c39 => ?_) ?_
              · have c39 : a1.toInt = (4) := c39
                exfalso
                omega
              refine And.intro (fun c40 => ?_) ?_
              · have c40 : a1.toInt = (5) := c40
                exfalso
                omega
              refine And.intro (fun c41 => ?_) ?_
              · have c41 : a1.toInt = (6) := c41
                exfalso
                omega
              exact trivial
            · have c22 : ¬ (a2.toInt < v18.toInt) := c22
              refine And.intro (Nat.le_of_ble_eq_true rfl) (And.intro ⟨0, (Int32.ofInt 5), rfl, by decide, i0⟩ ?_)
              intro v42 s44 h43
              have h43 : Iv s44 ∧ Kp s0 s44 ∧ (v42.toInt = -1) := h43
              have i45 := h43.1
              have k46 : Kp s0 s44 := Kx.tr Kx.rf (h43.2.1)
              have q47 := h43.2.2
              intro v48 e49
              show Iv s44 ∧ Kp s0 s44 ∧ (True)
              exact ⟨i45, k46, (trivial)⟩
          refine And.intro (fun c50 => ?_) ?_
          · have c50 : a1.toInt = (1) := c50
            intro v51 e52
            have g53 : s0.1 43 2 = v51 := by rw [e52]
            have b54 : (0 : Int) ≤ v51.toInt ∧ v51.toInt ≤ 48 := by rw [e52]; exact Iv_43_2 i0
            refine And.intro (fun c55 => ?_) (fun c55 => ?_)
            · have c55 : a2.toInt < v51.toInt := c55
              refine And.intro rfl (And.intro ⟨by omega, by omega⟩ ?_)
              refine And.intro (fun c56 => ?_) ?_
              · have c56 : a1.toInt = (0) := c56
                exfalso
                omega
              refine And.intro (fun c57 => ?_) ?_
              · have c57 : a1.toInt = (1) := c57
                refine And.intro (Nat.le_of_ble_eq_true rfl) (And.intro ⟨43, a2, rfl, by decide, i0, by omega⟩ ?_)
                intro v58 s60 h59
                have h59 : s60 = s0 ∧ (True) := h59
                have q63 := h59.1.symm
                subst q63
                refine And.intro (Nat.le_of_ble_eq_true rfl) (And.intro ⟨0, v58, rfl, by decide, i0⟩ ?_)
                intro v64 s66 h65
                have h65 : Iv s66 ∧ Kp s0 s66 ∧ (v64 = v58) := h65
                have i67 := h65.1
                have k68 : Kp s0 s66 := Kx.tr Kx.rf (h65.2.1)
                have q69 := h65.2.2
                show Iv s66 ∧ Kp s0 s66 ∧ (True)
                exact ⟨i67, k68, (trivial)⟩
              refine And.intro (fun c70 => ?_) ?_
              · have c70 : a1.toInt = (2) := c70
                exfalso
                omega
              refine And.intro (fun c71 => ?_) ?_
              · have c71 : a1.toInt = (3) := c71
                exfalso
                omega
              refine And.intro (fun c72 => ?_) ?_
              · have c72 : a1.toInt = (4) := c72
                exfalso
                omega
              refine And.intro (fun c73 => ?_) ?_
              · have c73 : a1.toInt = (5) := c73
                exfalso
                omega
              refine And.intro (fun c74 => ?_) ?_
              · have c74 : a1.toInt = (6) := c74
                exfalso
                omega
              exact trivial
            · have c55 : ¬ (a2.toInt < v51.toInt) := c55
              refine And.intro (Nat.le_of_ble_eq_true rfl) (And.intro ⟨0, (Int32.ofInt 5), rfl, by decide, i0⟩ ?_)
              intro v75 s77 h76
              have h76 : Iv s77 ∧ Kp s0 s77 ∧ (v75.toInt = -1) := h76
              have i78 := h76.1
              have k79 : Kp s0 s77 := Kx.tr Kx.rf (h76.2.1)
              have q80 := h76.2.2
              intro v81 e82
              show Iv s77 ∧ Kp s0 s77 ∧ (True)
              exact ⟨i78, k79, (trivial)⟩
          refine And.intro (fun c83 => ?_) ?_
          · have c83 : a1.toInt = (2) := c83
            intro v84 e85
            have g86 : s0.1 45 2 = v84 := by rw [e85]
            have b87 : (0 : Int) ≤ v84.toInt ∧ v84.toInt ≤ 48 := by rw [e85]; exact Iv_45_2 i0
            refine And.intro (fun c88 => ?_) (fun c88 => ?_)
            · have c88 : a2.toInt < v84.toInt := c88
              refine And.intro rfl (And.intro ⟨by omega, by omega⟩ ?_)
              refine And.intro (fun c89 => ?_) ?_
              · have c89 : a1.toInt = (0) := c89
                exfalso
                omega
              refine And.intro (fun c90 => ?_) ?_
              · have c90 : a1.toInt = (1) := c90
                exfalso
                omega
              refine And.intro (fun c91 => ?_) ?_
              · have c91 : a1.toInt = (2) := c91
                refine And.intro (Nat.le_of_ble_eq_true rfl) (And.intro ⟨45, a2, rfl, by decide, i0, by omega⟩ ?_)
                intro v92 s94 h93
                have h93 : s94 = s0 ∧ (True) := h93
                have q97 := h93.1.symm
                subst q97
                refine And.intro (Nat.le_of_ble_eq_true rfl) (And.intro ⟨0, v92, rfl, by decide, i0⟩ ?_)
                intro v98 s100 h99
                have h99 : Iv s100 ∧ Kp s0 s100 ∧ (v98 = v92) := h99
                have i101 := h99.1
                have k102 : Kp s0 s100 := Kx.tr Kx.rf (h99.2.1)
                have q103 := h99.2.2
                show Iv s100 ∧ Kp s0 s100 ∧ (True)
                exact ⟨i101, k102, (trivial)⟩
              refine And.intro (fun c104 => ?_) ?_
              · have c104 : a1.toInt = (3) := c104
                exfalso
                omega
              refine And.intro (fun c105 => ?_) ?_
              · have c105 : a1.toInt = (4) := c105
                exfalso
                omega
              refine And.intro (fun c106 => ?_) ?_
              · have c106 : a1.toInt = (5) := c106
                exfalso
                omega
              refine And.intro (fun c107 => ?_) ?_
              · have c107 : a1.toInt = (6) := c107
                exfalso
                omega
              exact trivial
            · have c88 : ¬ (a2.toInt < v84.toInt) := c88
              refine And.intro (Nat.le_of_ble_eq_true rfl) (And.intro ⟨0, (Int32.ofInt 5), rfl, by decide, i0⟩ ?_)
              intro v108 s110 h109
              have h109 : Iv s110 ∧ Kp s0 s110 ∧ (v108.toInt = -1) := h109
              have i111 := h109.1
              have k112 : Kp s0 s110 := Kx.tr Kx.rf (h109.2.1)
              have q113 := h109.2.2
              intro v114 e115
              show Iv s110 ∧ Kp s0 s110 ∧ (True)
              exact ⟨i111, k112, (trivial)⟩
          refine And.intro (fun c116 => ?_) ?_
          · have c116 : a1.toInt = (3) := c116
            exfalso
            omega
          refine And.intro (fun c117 => ?_) ?_
          · have c117 : a1.toInt = (4) := c117
            exfalso
            omega
          refine And.intro (fun c118 => ?_) ?_
          · have c118 : a1.toInt = (5) := c118
            exfalso
            omega
          refine And.intro (fun c119 => ?_) ?_
          · have c119 : a1.toInt = (6) := c119
            exfalso
            omega
          exact trivial
        · have c16 : ¬ (¬ v9.toInt = 0) := c16
          refine And.intro (Nat.le_of_ble_eq_true rfl) (And.intro ⟨0, (Int32.ofInt 2), rfl, by decide, i0⟩ ?_)
          intro v120 s122 h121
          have h121 : Iv s122 ∧ Kp s0 s122 ∧ (v120.toInt = -1) := h121
          have i123 := h121.1
          have k124 : Kp s0 s122 := Kx.tr Kx.rf (h121.2.1)
          have q125 := h121.2.2
          intro v126 e127
          show Iv s122 ∧ Kp s0 s122 ∧ (True)
          exact ⟨i123, k124, (trivial)⟩
      · have c8 : ¬ (¬ v1.toInt = 0) := c8
        refine And.intro (Nat.le_of_ble_eq_true rfl) (And.intro ⟨0, (Int32.ofInt 1), rfl, by decide, i0⟩ ?_)
        intro v128 s130 h129
        have h129 : Iv s130 ∧ Kp s0 s130 ∧ (v128.toInt = -1) := h129
        have i131 := h129.1
        have k132 : Kp s0 s130 := Kx.tr Kx.rf (h129.2.1)
        have q133 := h129.2.2
        intro v134 e135
        show Iv s130 ∧ Kp s0 s130 ∧ (True)
        exact ⟨i131, k132, (trivial)⟩
def o_X10_tonal : List vg_I := [(0, .iload_n 1, 1, 0, 0, 0, 0), (1, .iconst 0, 1, 0, 0, 0, 0), (2, .iconst 2, 1, 0, 0, 0, 0), (3, .invokestatic 82, 3, 0, 1, 3, 478), (6, .ifCond .ne 9, 3, 0, 0, 0, 0), (9, .aload_n 0, 1, 0, 0, 0, 0), (10, .iconst 2, 1, 0, 0, 0, 0), (11, .invokevirtual 90, 3, 1, 10, 1, 484), (14, .ireturn, 1, 0, 0, 0, 0), (15, .aload_n 0, 1, 0, 0, 0, 0), (16, .getfield 52, 3, 436, 10, 9, 0), (19, .iload_n 1, 1, 0, 0, 0, 0), (20, .aaload, 1, 0, 0, 0, 0), (21, .getfield 210, 3, 415, 4, 2, 0), (24, .bipush 24, 2, 0, 0, 0, 0), (26, .if_icmp .gt 9, 3, 0, 0, 0, 0), (29, .aload_n 0, 1, 0, 0, 0, 0), (30, .iconst 5, 1, 0, 0, 0, 0), (31, .invokevirtual 90, 3, 1, 10, 1, 484), (34, .ireturn, 1, 0, 0, 0, 0), (35, .aload_n 0, 1, 0, 0, 0, 0), (36, .aload_n 0, 1, 0, 0, 0, 0), (37, .getfield 52, 3, 436, 10, 9, 0), (40, .iload_n 1, 1, 0, 0, 0, 0), (41, .aaload, 1, 0, 0, 0, 0), (42, .iconst 2, 1, 0, 0, 0, 0), (43, .bipush 24, 2, 0, 0, 0, 0), (45, .invokevirtual 341, 3, 2, 4, 2, 932), (48, .invokevirtual 113, 3, 3, 10, 1, 520), (51, .ireturn, 1, 0, 0, 0, 0)]
set_option maxRecDepth 100000 in
set_option maxHeartbeats 4000000 in
theorem c_X10_tonal (l : Launch) (G : vg_G) (hp : vg_Hp G) : vg_Ct l G vg_sh r_X10_tonal := by
  refine vg_meth hp vg_sh_ok r_X10_tonal k_X10_tonal rfl (fun h => by cases h) o_X10_tonal [r_X10_within, r_X10_refuse, r_X4_greatestBeat, r_X10_answer] false (by decide +kernel) (by decide +kernel) ⟨_, _, rfl, rfl⟩ (List.forall_mem_cons.mpr ⟨⟨c_X10_within l G hp, Nat.le_of_ble_eq_true rfl, Nat.le_of_ble_eq_true rfl⟩, List.forall_mem_cons.mpr ⟨⟨c_X10_refuse l G hp, Nat.le_of_ble_eq_true rfl, Nat.le_of_ble_eq_true rfl⟩, List.forall_mem_cons.mpr ⟨⟨c_X4_greatestBeat l G hp, Nat.le_of_ble_eq_true rfl, Nat.le_of_ble_eq_true rfl⟩, List.forall_mem_cons.mpr ⟨⟨c_X10_answer l G hp, Nat.le_of_ble_eq_true rfl, Nat.le_of_ble_eq_true rfl⟩, fun _ h => absurd h List.not_mem_nil⟩⟩⟩⟩) (fun h => by cases h) 600 ?_
  intro as s0 hpre
  obtain ⟨r, a1, rfl, hr, i0⟩ := hpre
  simp only [List.mem_cons, List.not_mem_nil, or_false] at hr
  rcases hr with rfl
  ·
    have z0 : (Int32.ofInt 0).toInt = 0 := by decide
    have z2 : (Int32.ofInt 2).toInt = 2 := by decide
    have z5 : (Int32.ofInt 5).toInt = 5 := by decide
    have z24 : (Int32.ofInt 24).toInt = 24 := by decide
    refine ⟨Nat.le_of_ble_eq_true rfl, [], ?_, fun _ h => absurd h List.not_mem_nil⟩
    ·
      refine And.intro (Nat.le_of_ble_eq_true rfl) (And.intro ⟨a1, (Int32.ofInt 0), (Int32.ofInt 2), rfl, trivial⟩ ?_)
      intro v1 s3 h2
      have h2 : s3 = s0 ∧ ((v1.toInt = 1 ∧ (Int32.ofInt 0).toInt ≤ a1.toInt ∧ a1.toInt ≤ (Int32.ofInt 2).toInt) ∨ (v1.toInt = 0 ∧ (a1.toInt < (Int32.ofInt 0).toInt ∨ (Int32.ofInt 2).toInt < a1.toInt))) := h2
      have q6 := h2.1.symm
      subst q6
      have q7 := h2.2
      refine And.intro (fun c8 => ?_) (fun c8 => ?_)
      · have c8 : ¬ v1.toInt = 0 := c8
        refine And.intro rfl (And.intro ⟨by omega, by omega⟩ ?_)
        refine And.intro (fun c9 => ?_) ?_
        · have c9 : a1.toInt = (0) := c9
          intro v10 e11
          have g12 : s0.1 41 2 = v10 := by rw [e11]
          have b13 : (0 : Int) ≤ v10.toInt ∧ v10.toInt ≤ 48 := by rw [e11]; exact Iv_41_2 i0
          refine And.intro (fun c14 => ?_) (fun c14 => ?_)
          · have c14 : (Int32.ofInt 24).toInt < v10.toInt := c14
            refine And.intro rfl (And.intro ⟨by omega, by omega⟩ ?_)
            refine And.intro (fun c15 => ?_) ?_
            · have c15 : a1.toInt = (0) := c15
              refine And.intro (Nat.le_of_ble_eq_true rfl) (And.intro ⟨41, (Int32.ofInt 2), (Int32.ofInt 24), rfl, by decide, i0, by omega⟩ ?_)
              intro v16 s18 h17
              have h17 : s18 = s0 ∧ (True) := h17
              have q21 := h17.1.symm
              subst q21
              refine And.intro (Nat.le_of_ble_eq_true rfl) (And.intro ⟨0, v16, rfl, by decide, i0⟩ ?_)
              intro v22 s24 h23
              have h23 : Iv s24 ∧ Kp s0 s24 ∧ (v22 = v16 ∧ v22.toInt = v16.toInt) := h23
              have i25 := h23.1
              have k26 : Kp s0 s24 := Kx.tr Kx.rf (h23.2.1)
              have q27 := h23.2.2
              show Iv s24 ∧ Kp s0 s24 ∧ (True)
              exact ⟨i25, k26, (trivial)⟩
            refine And.intro (fun c28 => ?_) ?_
            · have c28 : a1.toInt = (1) := c28
              exfalso
              omega
            refine And.intro (fun c29 => ?_) ?_
            · have c29 : a1.toInt = (2) := c29
              exfalso
              omega
            refine And.intro (fun c30 => ?_) ?_
            · have c30 : a1.toInt = (3) := c30
              exfalso
              omega
            refine And.intro (fun c31 => ?_) ?_
            · have c31 : a1.toInt = (4) := c31
              exfalso
              omega
            refine And.intro (fun c32 => ?_) ?_
            · have c32 : a1.toInt = (5) := c32
              exfalso
              omega
            refine And.intro (fun c33 => ?_) ?_
            · have c33 : a1.toInt = (6) := c33
              exfalso
              omega
            exact trivial
          · have c14 : ¬ ((Int32.ofInt 24).toInt < v10.toInt) := c14
            refine And.intro (Nat.le_of_ble_eq_true rfl) (And.intro ⟨0, (Int32.ofInt 5), rfl, by decide, i0⟩ ?_)
            intro v34 s36 h35
            have h35 : Iv s36 ∧ Kp s0 s36 ∧ (v34.toInt = -1) := h35
            have i37 := h35.1
            have k38 : Kp s0 s36 := Kx.tr Kx.rf (h35.2.1)
            have q39 := h35.2.2
            show Iv s36 ∧ Kp s0 s36 ∧ (True)
            exact ⟨i37, k38, (trivial)⟩
        refine And.intro (fun c40 => ?_) ?_
        · have c40 : a1.toInt = (1) := c40
          intro v41 e42
          have g43 : s0.1 43 2 = v41 := by rw [e42]
          have b44 : (0 : Int) ≤ v41.toInt ∧ v41.toInt ≤ 48 := by rw [e42]; exact Iv_43_2 i0
          refine And.intro (fun c45 => ?_) (fun c45 => ?_)
          · have c45 : (Int32.ofInt 24).toInt < v41.toInt := c45
            refine And.intro rfl (And.intro ⟨by omega, by omega⟩ ?_)
            refine And.intro (fun c46 => ?_) ?_
            · have c46 : a1.toInt = (0) := c46
              exfalso
              omega
            refine And.intro (fun c47 => ?_) ?_
            · have c47 : a1.toInt = (1) := c47
              refine And.intro (Nat.le_of_ble_eq_true rfl) (And.intro ⟨43, (Int32.ofInt 2), (Int32.ofInt 24), rfl, by decide, i0, by omega⟩ ?_)
              intro v48 s50 h49
              have h49 : s50 = s0 ∧ (True) := h49
              have q53 := h49.1.symm
              subst q53
              refine And.intro (Nat.le_of_ble_eq_true rfl) (And.intro ⟨0, v48, rfl, by decide, i0⟩ ?_)
              intro v54 s56 h55
              have h55 : Iv s56 ∧ Kp s0 s56 ∧ (v54 = v48 ∧ v54.toInt = v48.toInt) := h55
              have i57 := h55.1
              have k58 : Kp s0 s56 := Kx.tr Kx.rf (h55.2.1)
              have q59 := h55.2.2
              show Iv s56 ∧ Kp s0 s56 ∧ (True)
              exact ⟨i57, k58, (trivial)⟩
            refine And.intro (fun c60 => ?_) ?_
            · have c60 : a1.toInt = (2) := c60
              exfalso
              omega
            refine And.intro (fun c61 => ?_) ?_
            · have c61 : a1.toInt = (3) := c61
              exfalso
              omega
            refine And.intro (fun c62 => ?_) ?_
            · have c62 : a1.toInt = (4) := c62
              exfalso
              omega
            refine And.intro (fun c63 => ?_) ?_
            · have c63 : a1.toInt = (5) := c63
              exfalso
              omega
            refine And.intro (fun c64 => ?_) ?_
            · have c64 : a1.toInt = (6) := c64
              exfalso
              omega
            exact trivial
          · have c45 : ¬ ((Int32.ofInt 24).toInt < v41.toInt) := c45
            refine And.intro (Nat.le_of_ble_eq_true rfl) (And.intro ⟨0, (Int32.ofInt 5), rfl, by decide, i0⟩ ?_)
            intro v65 s67 h66
            have h66 : Iv s67 ∧ Kp s0 s67 ∧ (v65.toInt = -1) := h66
            have i68 := h66.1
            have k69 : Kp s0 s67 := Kx.tr Kx.rf (h66.2.1)
            have q70 := h66.2.2
            show Iv s67 ∧ Kp s0 s67 ∧ (True)
            exact ⟨i68, k69, (trivial)⟩
        refine And.intro (fun c71 => ?_) ?_
        · have c71 : a1.toInt = (2) := c71
          intro v72 e73
          have g74 : s0.1 45 2 = v72 := by rw [e73]
          have b75 : (0 : Int) ≤ v72.toInt ∧ v72.toInt ≤ 48 := by rw [e73]; exact Iv_45_2 i0
          refine And.intro (fun c76 => ?_) (fun c76 => ?_)
          · have c76 : (Int32.ofInt 24).toInt < v72.toInt := c76
            refine And.intro rfl (And.intro ⟨by omega, by omega⟩ ?_)
            refine And.intro (fun c77 => ?_) ?_
            · have c77 : a1.toInt = (0) := c77
              exfalso
              omega
            refine And.intro (fun c78 => ?_) ?_
            · have c78 : a1.toInt = (1) := c78
              exfalso
              omega
            refine And.intro (fun c79 => ?_) ?_
            · have c79 : a1.toInt = (2) := c79
              refine And.intro (Nat.le_of_ble_eq_true rfl) (And.intro ⟨45, (Int32.ofInt 2), (Int32.ofInt 24), rfl, by decide, i0, by omega⟩ ?_)
              intro v80 s82 h81
              have h81 : s82 = s0 ∧ (True) := h81
              have q85 := h81.1.symm
              subst q85
              refine And.intro (Nat.le_of_ble_eq_true rfl) (And.intro ⟨0, v80, rfl, by decide, i0⟩ ?_)
              intro v86 s88 h87
              have h87 : Iv s88 ∧ Kp s0 s88 ∧ (v86 = v80 ∧ v86.toInt = v80.toInt) := h87
              have i89 := h87.1
              have k90 : Kp s0 s88 := Kx.tr Kx.rf (h87.2.1)
              have q91 := h87.2.2
              show Iv s88 ∧ Kp s0 s88 ∧ (True)
              exact ⟨i89, k90, (trivial)⟩
            refine And.intro (fun c92 => ?_) ?_
            · have c92 : a1.toInt = (3) := c92
              exfalso
              omega
            refine And.intro (fun c93 => ?_) ?_
            · have c93 : a1.toInt = (4) := c93
              exfalso
              omega
            refine And.intro (fun c94 => ?_) ?_
            · have c94 : a1.toInt = (5) := c94
              exfalso
              omega
            refine And.intro (fun c95 => ?_) ?_
            · have c95 : a1.toInt = (6) := c95
              exfalso
              omega
            exact trivial
          · have c76 : ¬ ((Int32.ofInt 24).toInt < v72.toInt) := c76
            refine And.intro (Nat.le_of_ble_eq_true rfl) (And.intro ⟨0, (Int32.ofInt 5), rfl, by decide, i0⟩ ?_)
            intro v96 s98 h97
            have h97 : Iv s98 ∧ Kp s0 s98 ∧ (v96.toInt = -1) := h97
            have i99 := h97.1
            have k100 : Kp s0 s98 := Kx.tr Kx.rf (h97.2.1)
            have q101 := h97.2.2
            show Iv s98 ∧ Kp s0 s98 ∧ (True)
            exact ⟨i99, k100, (trivial)⟩
        refine And.intro (fun c102 => ?_) ?_
        · have c102 : a1.toInt = (3) := c102
          exfalso
          omega
        refine And.intro (fun c103 => ?_) ?_
        · have c103 : a1.toInt = (4) := c103
          exfalso
          omega
        refine And.intro (fun c104 => ?_) ?_
        · have c104 : a1.toInt = (5) := c104
          exfalso
          omega
        refine And.intro (fun c105 => ?_) ?_
        · have c105 : a1.toInt = (6) := c105
          exfalso
          omega
        exact trivial
      · have c8 : ¬ (¬ v1.toInt = 0) := c8
        refine And.intro (Nat.le_of_ble_eq_true rfl) (And.intro ⟨0, (Int32.ofInt 2), rfl, by decide, i0⟩ ?_)
        intro v106 s108 h107
        have h107 : Iv s108 ∧ Kp s0 s108 ∧ (v106.toInt = -1) := h107
        have i109 := h107.1
        have k110 : Kp s0 s108 := Kx.tr Kx.rf (h107.2.1)
        have q111 := h107.2.2
        show Iv s108 ∧ Kp s0 s108 ∧ (True)
        exact ⟨i109, k110, (trivial)⟩
def o_X10_out : List vg_I := [(0, .iload_n 1, 1, 0, 0, 0, 0), (1, .invokestatic 86, 3, 0, 1, 1, 481), (4, .ifCond .eq 14, 3, 0, 0, 0, 0), (7, .iload_n 2, 1, 0, 0, 0, 0), (8, .iconst 0, 1, 0, 0, 0, 0), (9, .sipush 999, 3, 0, 0, 0, 0), (12, .invokestatic 82, 3, 1, 1, 3, 478), (15, .ifCond .ne 9, 3, 0, 0, 0, 0), (18, .aload_n 0, 1, 0, 0, 0, 0), (19, .iconst 1, 1, 0, 0, 0, 0), (20, .invokevirtual 90, 3, 2, 10, 1, 484), (23, .ireturn, 1, 0, 0, 0, 0), (24, .aload_n 0, 1, 0, 0, 0, 0), (25, .getfield 63, 3, 438, 10, 11, 0), (28, .aload_n 0, 1, 0, 0, 0, 0), (29, .getfield 19, 3, 431, 10, 4, 0), (32, .getfield 127, 3, 179, 5, 0, 0), (35, .invokevirtual 372, 3, 3, 5, 1, 1013), (38, .iconst 0, 1, 0, 0, 0, 0), (39, .istore_n 3, 1, 0, 0, 0, 0), (40, .iconst 0, 1, 0, 0, 0, 0), (41, .istore 4, 2, 0, 0, 0, 0), (43, .iload 4, 2, 0, 0, 0, 0), (45, .iload_n 2, 1, 0, 0, 0, 0), (46, .if_icmp .gt 18, 3, 0, 0, 0, 0), (49, .aload_n 0, 1, 0, 0, 0, 0), (50, .getfield 63, 3, 438, 10, 11, 0), (53, .iload_n 1, 1, 0, 0, 0, 0), (54, .invokevirtual 376, 3, 4, 5, 1, 641), (57, .istore_n 3, 1, 0, 0, 0, 0), (58, .iinc 4 1, 3, 0, 0, 0, 0), (61, .goto (-18), 3, 0, 0, 0, 0), (64, .aload_n 0, 1, 0, 0, 0, 0), (65, .iload_n 3, 1, 0, 0, 0, 0), (66, .invokevirtual 113, 3, 5, 10, 1, 520), (69, .ireturn, 1, 0, 0, 0, 0)]
set_option maxRecDepth 100000 in
set_option maxHeartbeats 4000000 in
theorem c_X10_out (l : Launch) (G : vg_G) (hp : vg_Hp G) : vg_Ct l G vg_sh r_X10_out := by
  refine vg_meth hp vg_sh_ok r_X10_out k_X10_out rfl (fun h => by cases h) o_X10_out [r_X10_isNumber, r_X10_within, r_X10_refuse, r_X5_beginTone, r_X5_advance, r_X10_answer] false (by decide +kernel) (by decide +kernel) ⟨_, _, rfl, rfl⟩ (List.forall_mem_cons.mpr ⟨⟨c_X10_isNumber l G hp, Nat.le_of_ble_eq_true rfl, Nat.le_of_ble_eq_true rfl⟩, List.forall_mem_cons.mpr ⟨⟨c_X10_within l G hp, Nat.le_of_ble_eq_true rfl, Nat.le_of_ble_eq_true rfl⟩, List.forall_mem_cons.mpr ⟨⟨c_X10_refuse l G hp, Nat.le_of_ble_eq_true rfl, Nat.le_of_ble_eq_true rfl⟩, List.forall_mem_cons.mpr ⟨⟨c_X5_beginTone l G hp, Nat.le_of_ble_eq_true rfl, Nat.le_of_ble_eq_true rfl⟩, List.forall_mem_cons.mpr ⟨⟨c_X5_advance l G hp, Nat.le_of_ble_eq_true rfl, Nat.le_of_ble_eq_true rfl⟩, List.forall_mem_cons.mpr ⟨⟨c_X10_answer l G hp, Nat.le_of_ble_eq_true rfl, Nat.le_of_ble_eq_true rfl⟩, fun _ h => absurd h List.not_mem_nil⟩⟩⟩⟩⟩⟩) (fun h => by cases h) 600 ?_
  intro as s0 hpre
  obtain ⟨r, a1, a2, rfl, hr, i0⟩ := hpre
  simp only [List.mem_cons, List.not_mem_nil, or_false] at hr
  rcases hr with rfl
  ·
    have z0 : (Int32.ofInt 0).toInt = 0 := by decide
    have z1 : (Int32.ofInt 1).toInt = 1 := by decide
    have z999 : (Int32.ofInt 999).toInt = 999 := by decide
    refine ⟨Nat.le_of_ble_eq_true rfl, [(43, [true, true, true, true, true], (fun L t => ∃ (x3 : Int32) (x4 : Int32), L = [some (.ref 0), some (.int a1), some (.int a2), some (.int x3), some (.int x4)] ∧ (0 : Int) ≤ x4.toInt ∧ x4.toInt ≤ (1000 : Int) ∧ (-30000 : Int) ≤ a1.toInt ∧ a1.toInt ≤ (30000 : Int) ∧ (0 : Int) ≤ a2.toInt ∧ a2.toInt ≤ (999 : Int) ∧ Iv t ∧ Kp s0 t), (fun L _ => (0 + (1000 - (vg_li L 4).toInt) * 1000000000000).toNat))], ?_, List.forall_mem_cons.mpr ⟨?_, fun _ h => absurd h List.not_mem_nil⟩⟩
    ·
      refine And.intro (Nat.le_of_ble_eq_true rfl) (And.intro ⟨a1, rfl, trivial⟩ ?_)
      intro v1 s3 h2
      have h2 : s3 = s0 ∧ ((v1.toInt = 1 ∧ -30000 ≤ a1.toInt ∧ a1.toInt ≤ 30000) ∨ (v1.toInt = 0 ∧ (a1.toInt < -30000 ∨ 30000 < a1.toInt))) := h2
      have q6 := h2.1.symm
      subst q6
      have q7 := h2.2
      refine And.intro (fun c8 => ?_) (fun c8 => ?_)
      · have c8 : v1.toInt = 0 := c8
        refine And.intro (Nat.le_of_ble_eq_true rfl) (And.intro ⟨0, (Int32.ofInt 1), rfl, by decide, i0⟩ ?_)
        intro v9 s11 h10
        have h10 : Iv s11 ∧ Kp s0 s11 ∧ (v9.toInt = -1) := h10
        have i12 := h10.1
        have k13 : Kp s0 s11 := Kx.tr Kx.rf (h10.2.1)
        have q14 := h10.2.2
        show Iv s11 ∧ Kp s0 s11 ∧ (True)
        exact ⟨i12, k13, (trivial)⟩
      · have c8 : ¬ (v1.toInt = 0) := c8
        refine And.intro (Nat.le_of_ble_eq_true rfl) (And.intro ⟨a2, (Int32.ofInt 0), (Int32.ofInt 999), rfl, trivial⟩ ?_)
        intro v15 s17 h16
        have h16 : s17 = s0 ∧ ((v15.toInt = 1 ∧ (Int32.ofInt 0).toInt ≤ a2.toInt ∧ a2.toInt ≤ (Int32.ofInt 999).toInt) ∨ (v15.toInt = 0 ∧ (a2.toInt < (Int32.ofInt 0).toInt ∨ (Int32.ofInt 999).toInt < a2.toInt))) := h16
        have q20 := h16.1.symm
        subst q20
        have q21 := h16.2
        refine And.intro (fun c22 => ?_) (fun c22 => ?_)
        · have c22 : ¬ v15.toInt = 0 := c22
          refine And.intro (Nat.le_of_ble_eq_true rfl) (And.intro ⟨22, 4, rfl, by decide, by decide, i0⟩ ?_)
          intro s24 h23
          have h23 : Iv s24 ∧ Kp s0 s24 ∧ (True) := h23
          have i25 := h23.1
          have k26 : Kp s0 s24 := Kx.tr Kx.rf (h23.2.1)
          exact ⟨rfl, ⟨(Int32.ofInt 0), (Int32.ofInt 0), rfl, (by omega), (by omega), (by omega), (by omega), (by omega), (by omega), i25, k26⟩, trivial⟩
        · have c22 : ¬ (¬ v15.toInt = 0) := c22
          refine And.intro (Nat.le_of_ble_eq_true rfl) (And.intro ⟨0, (Int32.ofInt 1), rfl, by decide, i0⟩ ?_)
          intro v27 s29 h28
          have h28 : Iv s29 ∧ Kp s0 s29 ∧ (v27.toInt = -1) := h28
          have i30 := h28.1
          have k31 : Kp s0 s29 := Kx.tr Kx.rf (h28.2.1)
          have q32 := h28.2.2
          show Iv s29 ∧ Kp s0 s29 ∧ (True)
          exact ⟨i30, k31, (trivial)⟩
    ·
      intro L s41 hL
      obtain ⟨w33, w34, rfl, b35, b36, b37, b38, b39, b40, i42, k43⟩ := hL
      refine And.intro (fun c44 => ?_) (fun c44 => ?_)
      · have c44 : a2.toInt < w34.toInt := c44
        refine And.intro (Nat.le_of_ble_eq_true rfl) (And.intro ⟨0, w33, rfl, by decide, i42⟩ ?_)
        intro v45 s47 h46
        have h46 : Iv s47 ∧ Kp s41 s47 ∧ (v45 = w33 ∧ v45.toInt = w33.toInt) := h46
        have i48 := h46.1
        have k49 : Kp s0 s47 := Kx.tr k43 (h46.2.1)
        have q50 := h46.2.2
        show Iv s47 ∧ Kp s0 s47 ∧ (True)
        exact ⟨i48, k49, (trivial)⟩
      · have c44 : ¬ (a2.toInt < w34.toInt) := c44
        refine And.intro (Nat.le_of_ble_eq_true rfl) (And.intro ⟨22, a1, rfl, by decide, i42⟩ ?_)
        intro v51 s53 h52
        have h52 : Iv s53 ∧ Kp s41 s53 ∧ (True) := h52
        have i54 := h52.1
        have k55 : Kp s0 s53 := Kx.tr k43 (h52.2.1)
        intro v56 e57
        have b58 := vg_add e57 (by omega) (by omega)
        exact ⟨rfl, ⟨v51, v56, rfl, (by omega), (by omega), (by omega), (by omega), (by omega), (by omega), i54, k55⟩, (by show (0 + (1000 - v56.toInt) * 1000000000000).toNat < (0 + (1000 - w34.toInt) * 1000000000000).toNat; omega)⟩
def o_X10_next : List vg_I := [(0, .iload_n 1, 1, 0, 0, 0, 0), (1, .iconst 0, 1, 0, 0, 0, 0), (2, .aload_n 0, 1, 0, 0, 0, 0), (3, .getfield 26, 3, 432, 10, 5, 0), (6, .getfield 148, 3, 240, 2, 0, 0), (9, .invokestatic 82, 3, 0, 1, 3, 478), (12, .ifCond .ne 9, 3, 0, 0, 0, 0), (15, .aload_n 0, 1, 0, 0, 0, 0), (16, .iconst 1, 1, 0, 0, 0, 0), (17, .invokevirtual 90, 3, 1, 10, 1, 484), (20, .ireturn, 1, 0, 0, 0, 0), (21, .aload_n 0, 1, 0, 0, 0, 0), (22, .aload_n 0, 1, 0, 0, 0, 0), (23, .getfield 26, 3, 432, 10, 5, 0), (26, .iload_n 1, 1, 0, 0, 0, 0), (27, .invokevirtual 382, 3, 2, 2, 1, 1026), (30, .invokevirtual 113, 3, 3, 10, 1, 520), (33, .ireturn, 1, 0, 0, 0, 0)]
set_option maxRecDepth 100000 in
set_option maxHeartbeats 4000000 in
theorem c_X10_next (l : Launch) (G : vg_G) (hp : vg_Hp G) : vg_Ct l G vg_sh r_X10_next := by
  refine vg_meth hp vg_sh_ok r_X10_next k_X10_next rfl (fun h => by cases h) o_X10_next [r_X10_within, r_X10_refuse, r_X2_choose, r_X10_answer] false (by decide +kernel) (by decide +kernel) ⟨_, _, rfl, rfl⟩ (List.forall_mem_cons.mpr ⟨⟨c_X10_within l G hp, Nat.le_of_ble_eq_true rfl, Nat.le_of_ble_eq_true rfl⟩, List.forall_mem_cons.mpr ⟨⟨c_X10_refuse l G hp, Nat.le_of_ble_eq_true rfl, Nat.le_of_ble_eq_true rfl⟩, List.forall_mem_cons.mpr ⟨⟨c_X2_choose l G hp, Nat.le_of_ble_eq_true rfl, Nat.le_of_ble_eq_true rfl⟩, List.forall_mem_cons.mpr ⟨⟨c_X10_answer l G hp, Nat.le_of_ble_eq_true rfl, Nat.le_of_ble_eq_true rfl⟩, fun _ h => absurd h List.not_mem_nil⟩⟩⟩⟩) (fun h => by cases h) 600 ?_
  intro as s0 hpre
  obtain ⟨r, a1, rfl, hr, i0⟩ := hpre
  simp only [List.mem_cons, List.not_mem_nil, or_false] at hr
  rcases hr with rfl
  ·
    have z0 : (Int32.ofInt 0).toInt = 0 := by decide
    have z1 : (Int32.ofInt 1).toInt = 1 := by decide
    refine ⟨Nat.le_of_ble_eq_true rfl, [], ?_, fun _ h => absurd h List.not_mem_nil⟩
    ·
      intro v1 e2
      have g3 : s0.1 7 0 = v1 := by rw [e2]
      have b4 : (1 : Int) ≤ v1.toInt ∧ v1.toInt ≤ 16 := by rw [e2]; exact Iv_7_0 i0
      refine And.intro (Nat.le_of_ble_eq_true rfl) (And.intro ⟨a1, (Int32.ofInt 0), v1, rfl, trivial⟩ ?_)
      intro v5 s7 h6
      have h6 : s7 = s0 ∧ ((v5.toInt = 1 ∧ (Int32.ofInt 0).toInt ≤ a1.toInt ∧ a1.toInt ≤ v1.toInt) ∨ (v5.toInt = 0 ∧ (a1.toInt < (Int32.ofInt 0).toInt ∨ v1.toInt < a1.toInt))) := h6
      have q10 := h6.1.symm
      subst q10
      have q11 := h6.2
      refine And.intro (fun c12 => ?_) (fun c12 => ?_)
      · have c12 : ¬ v5.toInt = 0 := c12
        refine And.intro (Nat.le_of_ble_eq_true rfl) (And.intro ⟨7, a1, rfl, by decide, i0⟩ ?_)
        intro v13 s15 h14
        have h14 : s15 = s0 ∧ (True) := h14
        have q18 := h14.1.symm
        subst q18
        refine And.intro (Nat.le_of_ble_eq_true rfl) (And.intro ⟨0, v13, rfl, by decide, i0⟩ ?_)
        intro v19 s21 h20
        have h20 : Iv s21 ∧ Kp s0 s21 ∧ (v19 = v13 ∧ v19.toInt = v13.toInt) := h20
        have i22 := h20.1
        have k23 : Kp s0 s21 := Kx.tr Kx.rf (h20.2.1)
        have q24 := h20.2.2
        show Iv s21 ∧ Kp s0 s21 ∧ (True)
        exact ⟨i22, k23, (trivial)⟩
      · have c12 : ¬ (¬ v5.toInt = 0) := c12
        refine And.intro (Nat.le_of_ble_eq_true rfl) (And.intro ⟨0, (Int32.ofInt 1), rfl, by decide, i0⟩ ?_)
        intro v25 s27 h26
        have h26 : Iv s27 ∧ Kp s0 s27 ∧ (v25.toInt = -1) := h26
        have i28 := h26.1
        have k29 : Kp s0 s27 := Kx.tr Kx.rf (h26.2.1)
        have q30 := h26.2.2
        show Iv s27 ∧ Kp s0 s27 ∧ (True)
        exact ⟨i28, k29, (trivial)⟩
def o_X10_ahead : List vg_I := [(0, .iload_n 1, 1, 0, 0, 0, 0), (1, .iconst 1, 1, 0, 0, 0, 0), (2, .sipush 200, 3, 0, 0, 0, 0), (5, .invokestatic 82, 3, 0, 1, 3, 478), (8, .ifCond .eq 21, 3, 0, 0, 0, 0), (11, .iload_n 2, 1, 0, 0, 0, 0), (12, .iconst 0, 1, 0, 0, 0, 0), (13, .iconst 2, 1, 0, 0, 0, 0), (14, .invokestatic 82, 3, 0, 1, 3, 478), (17, .ifCond .eq 12, 3, 0, 0, 0, 0), (20, .iload_n 3, 1, 0, 0, 0, 0), (21, .iconst 0, 1, 0, 0, 0, 0), (22, .iconst 2, 1, 0, 0, 0, 0), (23, .invokestatic 82, 3, 0, 1, 3, 478), (26, .ifCond .ne 10, 3, 0, 0, 0, 0), (29, .aload_n 0, 1, 0, 0, 0, 0), (30, .iconst 1, 1, 0, 0, 0, 0), (31, .invokevirtual 90, 3, 1, 10, 1, 484), (34, .i2l, 1, 0, 0, 0, 0), (35, .lreturn, 1, 0, 0, 0, 0), (36, .aload_n 0, 1, 0, 0, 0, 0), (37, .getfield 63, 3, 438, 10, 11, 0), (40, .aload_n 0, 1, 0, 0, 0, 0), (41, .getfield 19, 3, 431, 10, 4, 0), (44, .invokevirtual 385, 3, 2, 5, 1, 1031), (47, .aload_n 0, 1, 0, 0, 0, 0), (48, .getfield 66, 3, 439, 10, 12, 0), (51, .aload_n 0, 1, 0, 0, 0, 0), (52, .getfield 26, 3, 432, 10, 5, 0), (55, .iload_n 2, 1, 0, 0, 0, 0), (56, .invokevirtual 389, 3, 3, 2, 2, 1035), (59, .iconst 0, 1, 0, 0, 0, 0), (60, .istore 4, 2, 0, 0, 0, 0), (62, .iload 4, 2, 0, 0, 0, 0), (64, .iload_n 1, 1, 0, 0, 0, 0), (65, .if_icmp .ge 38, 3, 0, 0, 0, 0), (68, .aload_n 0, 1, 0, 0, 0, 0), (69, .getfield 66, 3, 439, 10, 12, 0), (72, .aload_n 0, 1, 0, 0, 0, 0), (73, .getfield 63, 3, 438, 10, 11, 0), (76, .aload_n 0, 1, 0, 0, 0, 0), (77, .getfield 10, 3, 430, 10, 3, 0), (80, .aload_n 0, 1, 0, 0, 0, 0), (81, .getfield 110, 3, 428, 10, 1, 0), (84, .iload 4, 2, 0, 0, 0, 0), (86, .iadd, 1, 0, 0, 0, 0), (87, .invokevirtual 393, 3, 4, 7, 1, 620), (90, .invokevirtual 376, 3, 5, 5, 1, 641), (93, .invokevirtual 396, 3, 6, 2, 1, 721), (96, .pop, 1, 0, 0, 0, 0), (97, .iinc 4 1, 3, 0, 0, 0, 0), (100, .goto (-38), 3, 0, 0, 0, 0), (103, .iload_n 3, 1, 0, 0, 0, 0), (104, .lookupswitch 53 #[(0, 28), (1, 41)], 28, 0, 0, 0, 0), (132, .aload_n 0, 1, 0, 0, 0, 0), (133, .aload_n 0, 1, 0, 0, 0, 0), (134, .getfield 66, 3, 439, 10, 12, 0), (137, .invokevirtual 299, 3, 7, 2, 0, 857), (140, .i2l, 1, 0, 0, 0, 0), (141, .invokevirtual 239, 3, 8, 10, 1, 800), (144, .lreturn, 1, 0, 0, 0, 0), (145, .aload_n 0, 1, 0, 0, 0, 0), (146, .aload_n 0, 1, 0, 0, 0, 0), (147, .getfield 66, 3, 439, 10, 12, 0), (150, .getfield 252, 3, 256, 2, 8, 0), (153, .invokevirtual 239, 3, 8, 10, 1, 800), (156, .lreturn, 1, 0, 0, 0, 0), (157, .aload_n 0, 1, 0, 0, 0, 0), (158, .aload_n 0, 1, 0, 0, 0, 0), (159, .getfield 66, 3, 439, 10, 12, 0), (162, .getfield 399, 3, 258, 2, 9, 0), (165, .invokevirtual 239, 3, 8, 10, 1, 800), (168, .lreturn, 1, 0, 0, 0, 0)]
set_option maxRecDepth 100000 in
set_option maxHeartbeats 4000000 in
theorem c_X10_ahead (l : Launch) (G : vg_G) (hp : vg_Hp G) : vg_Ct l G vg_sh r_X10_ahead := by
  refine vg_meth hp vg_sh_ok r_X10_ahead k_X10_ahead rfl (fun h => by cases h) o_X10_ahead [r_X10_within, r_X10_refuse, r_X5_copyFrom, r_X2_beginLike, r_X7_numberAt, r_X5_advance, r_X2_take, r_X2_unevenness, r_X10_answerLong] false (by decide +kernel) (by decide +kernel) ⟨_, _, rfl, rfl⟩ (List.forall_mem_cons.mpr ⟨⟨c_X10_within l G hp, Nat.le_of_ble_eq_true rfl, Nat.le_of_ble_eq_true rfl⟩, List.forall_mem_cons.mpr ⟨⟨c_X10_refuse l G hp, Nat.le_of_ble_eq_true rfl, Nat.le_of_ble_eq_true rfl⟩, List.forall_mem_cons.mpr ⟨⟨c_X5_copyFrom l G hp, Nat.le_of_ble_eq_true rfl, Nat.le_of_ble_eq_true rfl⟩, List.forall_mem_cons.mpr ⟨⟨c_X2_beginLike l G hp, Nat.le_of_ble_eq_true rfl, Nat.le_of_ble_eq_true rfl⟩, List.forall_mem_cons.mpr ⟨⟨c_X7_numberAt l G hp, Nat.le_of_ble_eq_true rfl, Nat.le_of_ble_eq_true rfl⟩, List.forall_mem_cons.mpr ⟨⟨c_X5_advance l G hp, Nat.le_of_ble_eq_true rfl, Nat.le_of_ble_eq_true rfl⟩, List.forall_mem_cons.mpr ⟨⟨c_X2_take l G hp, Nat.le_of_ble_eq_true rfl, Nat.le_of_ble_eq_true rfl⟩, List.forall_mem_cons.mpr ⟨⟨c_X2_unevenness l G hp, Nat.le_of_ble_eq_true rfl, Nat.le_of_ble_eq_true rfl⟩, List.forall_mem_cons.mpr ⟨⟨c_X10_answerLong l G hp, Nat.le_of_ble_eq_true rfl, Nat.le_of_ble_eq_true rfl⟩, fun _ h => absurd h List.not_mem_nil⟩⟩⟩⟩⟩⟩⟩⟩⟩) (fun h => by cases h) 600 ?_
  intro as s0 hpre
  obtain ⟨r, a1, a2, a3, rfl, hr, i0⟩ := hpre
  simp only [List.mem_cons, List.not_mem_nil, or_false] at hr
  rcases hr with rfl
  ·
    have z0 : (Int32.ofInt 0).toInt = 0 := by decide
    have z1 : (Int32.ofInt 1).toInt = 1 := by decide
    have z2 : (Int32.ofInt 2).toInt = 2 := by decide
    have z200 : (Int32.ofInt 200).toInt = 200 := by decide
    refine ⟨Nat.le_of_ble_eq_true rfl, [(62, [true, true, false, true, true], (fun L t => ∃ (x4 : Int32), L = [some (.ref 0), some (.int a1), none, some (.int a3), some (.int x4)] ∧ (0 : Int) ≤ x4.toInt ∧ x4.toInt ≤ (200 : Int) ∧ (1 : Int) ≤ a1.toInt ∧ a1.toInt ≤ (200 : Int) ∧ (0 : Int) ≤ a3.toInt ∧ a3.toInt ≤ (2 : Int) ∧ Iv t ∧ Kp s0 t), (fun L _ => (0 + (200 - (vg_li L 4).toInt) * 1000000000000).toNat))], ?_, List.forall_mem_cons.mpr ⟨?_, fun _ h => absurd h List.not_mem_nil⟩⟩
    ·
      refine And.intro (Nat.le_of_ble_eq_true rfl) (And.intro ⟨a1, (Int32.ofInt 1), (Int32.ofInt 200), rfl, trivial⟩ ?_)
      intro v1 s3 h2
      have h2 : s3 = s0 ∧ ((v1.toInt = 1 ∧ (Int32.ofInt 1).toInt ≤ a1.toInt ∧ a1.toInt ≤ (Int32.ofInt 200).toInt) ∨ (v1.toInt = 0 ∧ (a1.toInt < (Int32.ofInt 1).toInt ∨ (Int32.ofInt 200).toInt < a1.toInt))) := h2
      have q6 := h2.1.symm
      subst q6
      have q7 := h2.2
      refine And.intro (fun c8 => ?_) (fun c8 => ?_)
      · have c8 : v1.toInt = 0 := c8
        refine And.intro (Nat.le_of_ble_eq_true rfl) (And.intro ⟨0, (Int32.ofInt 1), rfl, by decide, i0⟩ ?_)
        intro v9 s11 h10
        have h10 : Iv s11 ∧ Kp s0 s11 ∧ (v9.toInt = -1) := h10
        have i12 := h10.1
        have k13 : Kp s0 s11 := Kx.tr Kx.rf (h10.2.1)
        have q14 := h10.2.2
        intro v15 e16
        show Iv s11 ∧ Kp s0 s11 ∧ (True)
        exact ⟨i12, k13, (trivial)⟩
      · have c8 : ¬ (v1.toInt = 0) := c8
        refine And.intro (Nat.le_of_ble_eq_true rfl) (And.intro ⟨a2, (Int32.ofInt 0), (Int32.ofInt 2), rfl, trivial⟩ ?_)
        intro v17 s19 h18
        have h18 : s19 = s0 ∧ ((v17.toInt = 1 ∧ (Int32.ofInt 0).toInt ≤ a2.toInt ∧ a2.toInt ≤ (Int32.ofInt 2).toInt) ∨ (v17.toInt = 0 ∧ (a2.toInt < (Int32.ofInt 0).toInt ∨ (Int32.ofInt 2).toInt < a2.toInt))) := h18
        have q22 := h18.1.symm
        subst q22
        have q23 := h18.2
        refine And.intro (fun c24 => ?_) (fun c24 => ?_)
        · have c24 : v17.toInt = 0 := c24
          refine And.intro (Nat.le_of_ble_eq_true rfl) (And.intro ⟨0, (Int32.ofInt 1), rfl, by decide, i0⟩ ?_)
          intro v25 s27 h26
          have h26 : Iv s27 ∧ Kp s0 s27 ∧ (v25.toInt = -1) := h26
          have i28 := h26.1
          have k29 : Kp s0 s27 := Kx.tr Kx.rf (h26.2.1)
          have q30 := h26.2.2
          intro v31 e32
          show Iv s27 ∧ Kp s0 s27 ∧ (True)
          exact ⟨i28, k29, (trivial)⟩
        · have c24 : ¬ (v17.toInt = 0) := c24
          refine And.intro (Nat.le_of_ble_eq_true rfl) (And.intro ⟨a3, (Int32.ofInt 0), (Int32.ofInt 2), rfl, trivial⟩ ?_)
          intro v33 s35 h34
          have h34 : s35 = s0 ∧ ((v33.toInt = 1 ∧ (Int32.ofInt 0).toInt ≤ a3.toInt ∧ a3.toInt ≤ (Int32.ofInt 2).toInt) ∨ (v33.toInt = 0 ∧ (a3.toInt < (Int32.ofInt 0).toInt ∨ (Int32.ofInt 2).toInt < a3.toInt))) := h34
          have q38 := h34.1.symm
          subst q38
          have q39 := h34.2
          refine And.intro (fun c40 => ?_) (fun c40 => ?_)
          · have c40 : ¬ v33.toInt = 0 := c40
            refine And.intro (Nat.le_of_ble_eq_true rfl) (And.intro ⟨22, 3, rfl, by decide, by decide, i0⟩ ?_)
            intro s42 h41
            have h41 : Iv s42 ∧ Kp s0 s42 ∧ (True) := h41
            have i43 := h41.1
            have k44 : Kp s0 s42 := Kx.tr Kx.rf (h41.2.1)
            refine And.intro (Nat.le_of_ble_eq_true rfl) (And.intro ⟨26, 7, a2, rfl, by decide, by decide, i43⟩ ?_)
            intro s46 h45
            have h45 : Iv s46 ∧ Kp s42 s46 ∧ (True) := h45
            have i47 := h45.1
            have k48 : Kp s0 s46 := Kx.tr k44 (h45.2.1)
            exact ⟨rfl, ⟨(Int32.ofInt 0), rfl, (by omega), (by omega), (by omega), (by omega), (by omega), (by omega), i47, k48⟩, trivial⟩
          · have c40 : ¬ (¬ v33.toInt = 0) := c40
            refine And.intro (Nat.le_of_ble_eq_true rfl) (And.intro ⟨0, (Int32.ofInt 1), rfl, by decide, i0⟩ ?_)
            intro v49 s51 h50
            have h50 : Iv s51 ∧ Kp s0 s51 ∧ (v49.toInt = -1) := h50
            have i52 := h50.1
            have k53 : Kp s0 s51 := Kx.tr Kx.rf (h50.2.1)
            have q54 := h50.2.2
            intro v55 e56
            show Iv s51 ∧ Kp s0 s51 ∧ (True)
            exact ⟨i52, k53, (trivial)⟩
    ·
      intro L s64 hL
      obtain ⟨w57, rfl, b58, b59, b60, b61, b62, b63, i65, k66⟩ := hL
      refine And.intro (fun c67 => ?_) (fun c67 => ?_)
      · have c67 : a1.toInt ≤ w57.toInt := c67
        refine And.intro (fun c68 => ?_) (fun c68 => ?_)
        · have c68 : a3.toInt = (0) := c68
          refine And.intro (Nat.le_of_ble_eq_true rfl) (And.intro ⟨26, rfl, by decide, i65⟩ ?_)
          intro v69 s71 h70
          have h70 : s71 = s64 ∧ (True) := h70
          have q74 := h70.1.symm
          subst q74
          intro v75 e76
          refine And.intro (Nat.le_of_ble_eq_true rfl) (And.intro ⟨0, v75, rfl, by decide, i65⟩ ?_)
          intro v77 s79 h78
          have h78 : Iv s79 ∧ Kp s64 s79 ∧ (v77 = v75) := h78
          have i80 := h78.1
          have k81 : Kp s0 s79 := Kx.tr k66 (h78.2.1)
          have q82 := h78.2.2
          show Iv s79 ∧ Kp s0 s79 ∧ (True)
          exact ⟨i80, k81, (trivial)⟩
        have c68 : ¬ (a3.toInt = (0)) := c68
        refine And.intro (fun c83 => ?_) (fun c83 => ?_)
        · have c83 : a3.toInt = (1) := c83
          intro v84 e85
          refine And.intro (Nat.le_of_ble_eq_true rfl) (And.intro ⟨0, v84, rfl, by decide, i65⟩ ?_)
          intro v86 s88 h87
          have h87 : Iv s88 ∧ Kp s64 s88 ∧ (v86 = v84) := h87
          have i89 := h87.1
          have k90 : Kp s0 s88 := Kx.tr k66 (h87.2.1)
          have q91 := h87.2.2
          show Iv s88 ∧ Kp s0 s88 ∧ (True)
          exact ⟨i89, k90, (trivial)⟩
        have c83 : ¬ (a3.toInt = (1)) := c83
        intro v92 e93
        refine And.intro (Nat.le_of_ble_eq_true rfl) (And.intro ⟨0, v92, rfl, by decide, i65⟩ ?_)
        intro v94 s96 h95
        have h95 : Iv s96 ∧ Kp s64 s96 ∧ (v94 = v92) := h95
        have i97 := h95.1
        have k98 : Kp s0 s96 := Kx.tr k66 (h95.2.1)
        have q99 := h95.2.2
        show Iv s96 ∧ Kp s0 s96 ∧ (True)
        exact ⟨i97, k98, (trivial)⟩
      · have c67 : ¬ (a1.toInt ≤ w57.toInt) := c67
        intro v100 e101
        have g102 : s64.1 0 1 = v100 := by rw [e101]
        intro v103 e104
        refine And.intro (Nat.le_of_ble_eq_true rfl) (And.intro ⟨1, v103, rfl, by decide, i65⟩ ?_)
        intro v105 s107 h106
        have h106 : s107 = s64 ∧ (True) := h106
        have q110 := h106.1.symm
        subst q110
        refine And.intro (Nat.le_of_ble_eq_true rfl) (And.intro ⟨22, v105, rfl, by decide, i65⟩ ?_)
        intro v111 s113 h112
        have h112 : Iv s113 ∧ Kp s64 s113 ∧ (True) := h112
        have i114 := h112.1
        have k115 : Kp s0 s113 := Kx.tr k66 (h112.2.1)
        refine And.intro (Nat.le_of_ble_eq_true rfl) (And.intro ⟨26, v111, rfl, by decide, i114⟩ ?_)
        intro v116 s118 h117
        have h117 : Iv s118 ∧ Kp s113 s118 ∧ (True) := h117
        have i119 := h117.1
        have k120 : Kp s0 s118 := Kx.tr k115 (h117.2.1)
        intro v121 e122
        have b123 := vg_add e122 (by omega) (by omega)
        exact ⟨rfl, ⟨v121, rfl, (by omega), (by omega), (by omega), (by omega), (by omega), (by omega), i119, k120⟩, (by show (0 + (200 - v121.toInt) * 1000000000000).toNat < (0 + (200 - w57.toInt) * 1000000000000).toNat; omega)⟩
def o_X10_hitClocksAhead : List vg_I := [(0, .aload_n 0, 1, 0, 0, 0, 0), (1, .getfield 63, 3, 438, 10, 11, 0), (4, .aload_n 0, 1, 0, 0, 0, 0), (5, .getfield 19, 3, 431, 10, 4, 0), (8, .invokevirtual 385, 3, 0, 5, 1, 1031), (11, .aload_n 0, 1, 0, 0, 0, 0), (12, .getfield 63, 3, 438, 10, 11, 0), (15, .getfield 127, 3, 179, 5, 0, 0), (18, .iload_n 2, 1, 0, 0, 0, 0), (19, .putfield 141, 3, 150, 6, 4, 0), (22, .iconst 0, 1, 0, 0, 0, 0), (23, .istore_n 3, 1, 0, 0, 0, 0), (24, .iload_n 3, 1, 0, 0, 0, 0), (25, .iload_n 1, 1, 0, 0, 0, 0), (26, .if_icmp .ge 30, 3, 0, 0, 0, 0), (29, .aload_n 0, 1, 0, 0, 0, 0), (30, .getfield 63, 3, 438, 10, 11, 0), (33, .aload_n 0, 1, 0, 0, 0, 0), (34, .getfield 10, 3, 430, 10, 3, 0), (37, .aload_n 0, 1, 0, 0, 0, 0), (38, .getfield 110, 3, 428, 10, 1, 0), (41, .iload_n 3, 1, 0, 0, 0, 0), (42, .iadd, 1, 0, 0, 0, 0), (43, .invokevirtual 393, 3, 1, 7, 1, 620), (46, .invokevirtual 376, 3, 2, 5, 1, 641), (49, .pop, 1, 0, 0, 0, 0), (50, .iinc 3 1, 3, 0, 0, 0, 0), (53, .goto (-29), 3, 0, 0, 0, 0), (56, .aload_n 0, 1, 0, 0, 0, 0), (57, .getfield 63, 3, 438, 10, 11, 0), (60, .getfield 231, 3, 190, 5, 6, 0), (63, .ireturn, 1, 0, 0, 0, 0)]
set_option maxRecDepth 100000 in
set_option maxHeartbeats 4000000 in
theorem c_X10_hitClocksAhead (l : Launch) (G : vg_G) (hp : vg_Hp G) : vg_Ct l G vg_sh r_X10_hitClocksAhead := by
  refine vg_meth hp vg_sh_ok r_X10_hitClocksAhead k_X10_hitClocksAhead rfl (fun h => by cases h) o_X10_hitClocksAhead [r_X5_copyFrom, r_X7_numberAt, r_X5_advance] false (by decide +kernel) (by decide +kernel) ⟨_, _, rfl, rfl⟩ (List.forall_mem_cons.mpr ⟨⟨c_X5_copyFrom l G hp, Nat.le_of_ble_eq_true rfl, Nat.le_of_ble_eq_true rfl⟩, List.forall_mem_cons.mpr ⟨⟨c_X7_numberAt l G hp, Nat.le_of_ble_eq_true rfl, Nat.le_of_ble_eq_true rfl⟩, List.forall_mem_cons.mpr ⟨⟨c_X5_advance l G hp, Nat.le_of_ble_eq_true rfl, Nat.le_of_ble_eq_true rfl⟩, fun _ h => absurd h List.not_mem_nil⟩⟩⟩) (fun h => by cases h) 600 ?_
  intro as s0 hpre
  obtain ⟨r, a1, a2, rfl, hr, i0, p0⟩ := hpre
  simp only [List.mem_cons, List.not_mem_nil, or_false] at hr
  rcases hr with rfl
  ·
    have z0 : (Int32.ofInt 0).toInt = 0 := by decide
    have z1 : (Int32.ofInt 1).toInt = 1 := by decide
    refine ⟨Nat.le_of_ble_eq_true rfl, [(24, [true, true, false, true], (fun L t => ∃ (x3 : Int32), L = [some (.ref 0), some (.int a1), none, some (.int x3)] ∧ (0 : Int) ≤ x3.toInt ∧ x3.toInt ≤ (400 : Int) ∧ Iv t ∧ Kp s0 t), (fun L _ => (0 + (400 - (vg_li L 3).toInt) * 1000000000000).toNat))], ?_, List.forall_mem_cons.mpr ⟨?_, fun _ h => absurd h List.not_mem_nil⟩⟩
    ·
      refine And.intro (Nat.le_of_ble_eq_true rfl) (And.intro ⟨22, 3, rfl, by decide, by decide, i0⟩ ?_)
      intro s2 h1
      have h1 : Iv s2 ∧ Kp s0 s2 ∧ (True) := h1
      have i3 := h1.1
      have k4 : Kp s0 s2 := Kx.tr Kx.rf (h1.2.1)
      intro s5 e6
      have i7 : Iv s5 := Iv.c1 (lo := 1) (hi := 60000) i3 e6 rfl (by omega) (by omega)
      have k8 : Kp s0 s5 := Kx.u1 k4 e6 rfl
      exact ⟨rfl, ⟨(Int32.ofInt 0), rfl, (by omega), (by omega), i7, k8⟩, trivial⟩
    ·
      intro L s12 hL
      obtain ⟨w9, rfl, b10, b11, i13, k14⟩ := hL
      refine And.intro (fun c15 => ?_) (fun c15 => ?_)
      · have c15 : a1.toInt ≤ w9.toInt := c15
        intro v16 e17
        have g18 : s12.1 22 6 = v16 := by rw [e17]
        show Iv s12 ∧ Kp s0 s12 ∧ (True)
        exact ⟨i13, k14, (trivial)⟩
      · have c15 : ¬ (a1.toInt ≤ w9.toInt) := c15
        intro v19 e20
        have g21 : s12.1 0 1 = v19 := by rw [e20]
        intro v22 e23
        refine And.intro (Nat.le_of_ble_eq_true rfl) (And.intro ⟨1, v22, rfl, by decide, i13⟩ ?_)
        intro v24 s26 h25
        have h25 : s26 = s12 ∧ (True) := h25
        have q29 := h25.1.symm
        subst q29
        refine And.intro (Nat.le_of_ble_eq_true rfl) (And.intro ⟨22, v24, rfl, by decide, i13⟩ ?_)
        intro v30 s32 h31
        have h31 : Iv s32 ∧ Kp s12 s32 ∧ (True) := h31
        have i33 := h31.1
        have k34 : Kp s0 s32 := Kx.tr k14 (h31.2.1)
        intro v35 e36
        have b37 := vg_add e36 (by omega) (by omega)
        exact ⟨rfl, ⟨v35, rfl, (by omega), (by omega), i33, k34⟩, (by show (0 + (400 - v35.toInt) * 1000000000000).toNat < (0 + (400 - w9.toInt) * 1000000000000).toNat; omega)⟩
def o_X10_strain : List vg_I := [(0, .iload_n 1, 1, 0, 0, 0, 0), (1, .iconst 1, 1, 0, 0, 0, 0), (2, .sipush 200, 3, 0, 0, 0, 0), (5, .invokestatic 82, 3, 0, 1, 3, 478), (8, .ifCond .eq 13, 3, 0, 0, 0, 0), (11, .iload_n 2, 1, 0, 0, 0, 0), (12, .iconst 1, 1, 0, 0, 0, 0), (13, .ldc 122, 2, 532, 0, 0, 60000), (15, .invokestatic 82, 3, 0, 1, 3, 478), (18, .ifCond .ne 9, 3, 0, 0, 0, 0), (21, .aload_n 0, 1, 0, 0, 0, 0), (22, .iconst 1, 1, 0, 0, 0, 0), (23, .invokevirtual 90, 3, 1, 10, 1, 484), (26, .ireturn, 1, 0, 0, 0, 0), (27, .aload_n 0, 1, 0, 0, 0, 0), (28, .aload_n 0, 1, 0, 0, 0, 0), (29, .iload_n 1, 1, 0, 0, 0, 0), (30, .iload_n 2, 1, 0, 0, 0, 0), (31, .invokevirtual 402, 3, 2, 10, 2, 1045), (34, .invokevirtual 113, 3, 3, 10, 1, 520), (37, .ireturn, 1, 0, 0, 0, 0)]
set_option maxRecDepth 100000 in
set_option maxHeartbeats 4000000 in
theorem c_X10_strain (l : Launch) (G : vg_G) (hp : vg_Hp G) : vg_Ct l G vg_sh r_X10_strain := by
  refine vg_meth hp vg_sh_ok r_X10_strain k_X10_strain rfl (fun h => by cases h) o_X10_strain [r_X10_within, r_X10_refuse, r_X10_hitClocksAhead, r_X10_answer] false (by decide +kernel) (by decide +kernel) ⟨_, _, rfl, rfl⟩ (List.forall_mem_cons.mpr ⟨⟨c_X10_within l G hp, Nat.le_of_ble_eq_true rfl, Nat.le_of_ble_eq_true rfl⟩, List.forall_mem_cons.mpr ⟨⟨c_X10_refuse l G hp, Nat.le_of_ble_eq_true rfl, Nat.le_of_ble_eq_true rfl⟩, List.forall_mem_cons.mpr ⟨⟨c_X10_hitClocksAhead l G hp, Nat.le_of_ble_eq_true rfl, Nat.le_of_ble_eq_true rfl⟩, List.forall_mem_cons.mpr ⟨⟨c_X10_answer l G hp, Nat.le_of_ble_eq_true rfl, Nat.le_of_ble_eq_true rfl⟩, fun _ h => absurd h List.not_mem_nil⟩⟩⟩⟩) (fun h => by cases h) 600 ?_
  intro as s0 hpre
  obtain ⟨r, a1, a2, rfl, hr, i0⟩ := hpre
  simp only [List.mem_cons, List.not_mem_nil, or_false] at hr
  rcases hr with rfl
  ·
    have z1 : (Int32.ofInt 1).toInt = 1 := by decide
    have z200 : (Int32.ofInt 200).toInt = 200 := by decide
    have z60000 : (Int32.ofInt 60000).toInt = 60000 := by decide
    refine ⟨Nat.le_of_ble_eq_true rfl, [], ?_, fun _ h => absurd h List.not_mem_nil⟩
    ·
      refine And.intro (Nat.le_of_ble_eq_true rfl) (And.intro ⟨a1, (Int32.ofInt 1), (Int32.ofInt 200), rfl, trivial⟩ ?_)
      intro v1 s3 h2
      have h2 : s3 = s0 ∧ ((v1.toInt = 1 ∧ (Int32.ofInt 1).toInt ≤ a1.toInt ∧ a1.toInt ≤ (Int32.ofInt 200).toInt) ∨ (v1.toInt = 0 ∧ (a1.toInt < (Int32.ofInt 1).toInt ∨ (Int32.ofInt 200).toInt < a1.toInt))) := h2
      have q6 := h2.1.symm
      subst q6
      have q7 := h2.2
      refine And.intro (fun c8 => ?_) (fun c8 => ?_)
      · have c8 : v1.toInt = 0 := c8
        refine And.intro (Nat.le_of_ble_eq_true rfl) (And.intro ⟨0, (Int32.ofInt 1), rfl, by decide, i0⟩ ?_)
        intro v9 s11 h10
        have h10 : Iv s11 ∧ Kp s0 s11 ∧ (v9.toInt = -1) := h10
        have i12 := h10.1
        have k13 : Kp s0 s11 := Kx.tr Kx.rf (h10.2.1)
        have q14 := h10.2.2
        show Iv s11 ∧ Kp s0 s11 ∧ (True)
        exact ⟨i12, k13, (trivial)⟩
      · have c8 : ¬ (v1.toInt = 0) := c8
        refine And.intro (Nat.le_of_ble_eq_true rfl) (And.intro ⟨a2, (Int32.ofInt 1), (Int32.ofInt 60000), rfl, trivial⟩ ?_)
        intro v15 s17 h16
        have h16 : s17 = s0 ∧ ((v15.toInt = 1 ∧ (Int32.ofInt 1).toInt ≤ a2.toInt ∧ a2.toInt ≤ (Int32.ofInt 60000).toInt) ∨ (v15.toInt = 0 ∧ (a2.toInt < (Int32.ofInt 1).toInt ∨ (Int32.ofInt 60000).toInt < a2.toInt))) := h16
        have q20 := h16.1.symm
        subst q20
        have q21 := h16.2
        refine And.intro (fun c22 => ?_) (fun c22 => ?_)
        · have c22 : ¬ v15.toInt = 0 := c22
          refine And.intro (Nat.le_of_ble_eq_true rfl) (And.intro ⟨0, a1, a2, rfl, by decide, i0, by omega⟩ ?_)
          intro v23 s25 h24
          have h24 : Iv s25 ∧ Kp s0 s25 ∧ (True) := h24
          have i26 := h24.1
          have k27 : Kp s0 s25 := Kx.tr Kx.rf (h24.2.1)
          refine And.intro (Nat.le_of_ble_eq_true rfl) (And.intro ⟨0, v23, rfl, by decide, i26⟩ ?_)
          intro v28 s30 h29
          have h29 : Iv s30 ∧ Kp s25 s30 ∧ (v28 = v23 ∧ v28.toInt = v23.toInt) := h29
          have i31 := h29.1
          have k32 : Kp s0 s30 := Kx.tr k27 (h29.2.1)
          have q33 := h29.2.2
          show Iv s30 ∧ Kp s0 s30 ∧ (True)
          exact ⟨i31, k32, (trivial)⟩
        · have c22 : ¬ (¬ v15.toInt = 0) := c22
          refine And.intro (Nat.le_of_ble_eq_true rfl) (And.intro ⟨0, (Int32.ofInt 1), rfl, by decide, i0⟩ ?_)
          intro v34 s36 h35
          have h35 : Iv s36 ∧ Kp s0 s36 ∧ (v34.toInt = -1) := h35
          have i37 := h35.1
          have k38 : Kp s0 s36 := Kx.tr Kx.rf (h35.2.1)
          have q39 := h35.2.2
          show Iv s36 ∧ Kp s0 s36 ∧ (True)
          exact ⟨i37, k38, (trivial)⟩
def o_X10_calmed : List vg_I := [(0, .iload_n 1, 1, 0, 0, 0, 0), (1, .iconst 1, 1, 0, 0, 0, 0), (2, .bipush 60, 2, 0, 0, 0, 0), (4, .invokestatic 82, 3, 0, 1, 3, 478), (7, .ifCond .eq 14, 3, 0, 0, 0, 0), (10, .iload_n 2, 1, 0, 0, 0, 0), (11, .iconst 1, 1, 0, 0, 0, 0), (12, .sipush 400, 3, 0, 0, 0, 0), (15, .invokestatic 82, 3, 0, 1, 3, 478), (18, .ifCond .ne 9, 3, 0, 0, 0, 0), (21, .aload_n 0, 1, 0, 0, 0, 0), (22, .iconst 1, 1, 0, 0, 0, 0), (23, .invokevirtual 90, 3, 1, 10, 1, 484), (26, .ireturn, 1, 0, 0, 0, 0), (27, .aload_n 0, 1, 0, 0, 0, 0), (28, .iload_n 1, 1, 0, 0, 0, 0), (29, .iload_n 2, 1, 0, 0, 0, 0), (30, .invokevirtual 402, 3, 2, 10, 2, 1045), (33, .ifCond .le 9, 3, 0, 0, 0, 0), (36, .aload_n 0, 1, 0, 0, 0, 0), (37, .iconst 5, 1, 0, 0, 0, 0), (38, .invokevirtual 90, 3, 1, 10, 1, 484), (41, .ireturn, 1, 0, 0, 0, 0), (42, .aload_n 0, 1, 0, 0, 0, 0), (43, .iconst 1, 1, 0, 0, 0, 0), (44, .aload_n 0, 1, 0, 0, 0, 0), (45, .getfield 63, 3, 438, 10, 11, 0), (48, .getfield 405, 3, 193, 5, 8, 0), (51, .invokestatic 408, 3, 3, 1, 2, 1053), (54, .invokevirtual 113, 3, 4, 10, 1, 520), (57, .ireturn, 1, 0, 0, 0, 0)]
set_option maxRecDepth 100000 in
set_option maxHeartbeats 4000000 in
theorem c_X10_calmed (l : Launch) (G : vg_G) (hp : vg_Hp G) : vg_Ct l G vg_sh r_X10_calmed := by
  refine vg_meth hp vg_sh_ok r_X10_calmed k_X10_calmed rfl (fun h => by cases h) o_X10_calmed [r_X10_within, r_X10_refuse, r_X10_hitClocksAhead, r_J9_max_7cf53, r_X10_answer] false (by decide +kernel) (by decide +kernel) ⟨_, _, rfl, rfl⟩ (List.forall_mem_cons.mpr ⟨⟨c_X10_within l G hp, Nat.le_of_ble_eq_true rfl, Nat.le_of_ble_eq_true rfl⟩, List.forall_mem_cons.mpr ⟨⟨c_X10_refuse l G hp, Nat.le_of_ble_eq_true rfl, Nat.le_of_ble_eq_true rfl⟩, List.forall_mem_cons.mpr ⟨⟨c_X10_hitClocksAhead l G hp, Nat.le_of_ble_eq_true rfl, Nat.le_of_ble_eq_true rfl⟩, List.forall_mem_cons.mpr ⟨⟨c_J9_max_7cf53 l G hp, Nat.le_of_ble_eq_true rfl, Nat.le_of_ble_eq_true rfl⟩, List.forall_mem_cons.mpr ⟨⟨c_X10_answer l G hp, Nat.le_of_ble_eq_true rfl, Nat.le_of_ble_eq_true rfl⟩, fun _ h => absurd h List.not_mem_nil⟩⟩⟩⟩⟩) (fun h => by cases h) 600 ?_
  intro as s0 hpre
  obtain ⟨r, a1, a2, rfl, hr, i0⟩ := hpre
  simp only [List.mem_cons, List.not_mem_nil, or_false] at hr
  rcases hr with rfl
  ·
    have z1 : (Int32.ofInt 1).toInt = 1 := by decide
    have z5 : (Int32.ofInt 5).toInt = 5 := by decide
    have z60 : (Int32.ofInt 60).toInt = 60 := by decide
    have z400 : (Int32.ofInt 400).toInt = 400 := by decide
    refine ⟨Nat.le_of_ble_eq_true rfl, [], ?_, fun _ h => absurd h List.not_mem_nil⟩
    ·
      refine And.intro (Nat.le_of_ble_eq_true rfl) (And.intro ⟨a1, (Int32.ofInt 1), (Int32.ofInt 60), rfl, trivial⟩ ?_)
      intro v1 s3 h2
      have h2 : s3 = s0 ∧ ((v1.toInt = 1 ∧ (Int32.ofInt 1).toInt ≤ a1.toInt ∧ a1.toInt ≤ (Int32.ofInt 60).toInt) ∨ (v1.toInt = 0 ∧ (a1.toInt < (Int32.ofInt 1).toInt ∨ (Int32.ofInt 60).toInt < a1.toInt))) := h2
      have q6 := h2.1.symm
      subst q6
      have q7 := h2.2
      refine And.intro (fun c8 => ?_) (fun c8 => ?_)
      · have c8 : v1.toInt = 0 := c8
        refine And.intro (Nat.le_of_ble_eq_true rfl) (And.intro ⟨0, (Int32.ofInt 1), rfl, by decide, i0⟩ ?_)
        intro v9 s11 h10
        have h10 : Iv s11 ∧ Kp s0 s11 ∧ (v9.toInt = -1) := h10
        have i12 := h10.1
        have k13 : Kp s0 s11 := Kx.tr Kx.rf (h10.2.1)
        have q14 := h10.2.2
        show Iv s11 ∧ Kp s0 s11 ∧ (True)
        exact ⟨i12, k13, (trivial)⟩
      · have c8 : ¬ (v1.toInt = 0) := c8
        refine And.intro (Nat.le_of_ble_eq_true rfl) (And.intro ⟨a2, (Int32.ofInt 1), (Int32.ofInt 400), rfl, trivial⟩ ?_)
        intro v15 s17 h16
        have h16 : s17 = s0 ∧ ((v15.toInt = 1 ∧ (Int32.ofInt 1).toInt ≤ a2.toInt ∧ a2.toInt ≤ (Int32.ofInt 400).toInt) ∨ (v15.toInt = 0 ∧ (a2.toInt < (Int32.ofInt 1).toInt ∨ (Int32.ofInt 400).toInt < a2.toInt))) := h16
        have q20 := h16.1.symm
        subst q20
        have q21 := h16.2
        refine And.intro (fun c22 => ?_) (fun c22 => ?_)
        · have c22 : ¬ v15.toInt = 0 := c22
          refine And.intro (Nat.le_of_ble_eq_true rfl) (And.intro ⟨0, a1, a2, rfl, by decide, i0, by omega⟩ ?_)
          intro v23 s25 h24
          have h24 : Iv s25 ∧ Kp s0 s25 ∧ (True) := h24
          have i26 := h24.1
          have k27 : Kp s0 s25 := Kx.tr Kx.rf (h24.2.1)
          refine And.intro (fun c28 => ?_) (fun c28 => ?_)
          · have c28 : v23.toInt ≤ 0 := c28
            intro v29 e30
            have g31 : s25.1 22 8 = v29 := by rw [e30]
            refine And.intro (Nat.le_of_ble_eq_true rfl) (And.intro ⟨(Int32.ofInt 1), v29, rfl, trivial⟩ ?_)
            intro v32 s34 h33
            have h33 : s34 = s25 ∧ ((Int32.ofInt 1).toInt ≤ v32.toInt ∧ v29.toInt ≤ v32.toInt ∧ (v32.toInt = (Int32.ofInt 1).toInt ∨ v32.toInt = v29.toInt)) := h33
            have q37 := h33.1.symm
            subst q37
            have q38 := h33.2
            refine And.intro (Nat.le_of_ble_eq_true rfl) (And.intro ⟨0, v32, rfl, by decide, i26⟩ ?_)
            intro v39 s41 h40
            have h40 : Iv s41 ∧ Kp s25 s41 ∧ (v39 = v32 ∧ v39.toInt = v32.toInt) := h40
            have i42 := h40.1
            have k43 : Kp s0 s41 := Kx.tr k27 (h40.2.1)
            have q44 := h40.2.2
            show Iv s41 ∧ Kp s0 s41 ∧ (True)
            exact ⟨i42, k43, (trivial)⟩
          · have c28 : ¬ (v23.toInt ≤ 0) := c28
            refine And.intro (Nat.le_of_ble_eq_true rfl) (And.intro ⟨0, (Int32.ofInt 5), rfl, by decide, i26⟩ ?_)
            intro v45 s47 h46
            have h46 : Iv s47 ∧ Kp s25 s47 ∧ (v45.toInt = -1) := h46
            have i48 := h46.1
            have k49 : Kp s0 s47 := Kx.tr k27 (h46.2.1)
            have q50 := h46.2.2
            show Iv s47 ∧ Kp s0 s47 ∧ (True)
            exact ⟨i48, k49, (trivial)⟩
        · have c22 : ¬ (¬ v15.toInt = 0) := c22
          refine And.intro (Nat.le_of_ble_eq_true rfl) (And.intro ⟨0, (Int32.ofInt 1), rfl, by decide, i0⟩ ?_)
          intro v51 s53 h52
          have h52 : Iv s53 ∧ Kp s0 s53 ∧ (v51.toInt = -1) := h52
          have i54 := h52.1
          have k55 : Kp s0 s53 := Kx.tr Kx.rf (h52.2.1)
          have q56 := h52.2.2
          show Iv s53 ∧ Kp s0 s53 ∧ (True)
          exact ⟨i54, k55, (trivial)⟩
def o_X10_tone : List vg_I := [(0, .iload_n 1, 1, 0, 0, 0, 0), (1, .invokestatic 86, 3, 0, 1, 1, 481), (4, .ifCond .eq 12, 3, 0, 0, 0, 0), (7, .iload_n 2, 1, 0, 0, 0, 0), (8, .iconst 0, 1, 0, 0, 0, 0), (9, .iconst 5, 1, 0, 0, 0, 0), (10, .invokestatic 82, 3, 1, 1, 3, 478), (13, .ifCond .ne 9, 3, 0, 0, 0, 0), (16, .aload_n 0, 1, 0, 0, 0, 0), (17, .iconst 1, 1, 0, 0, 0, 0), (18, .invokevirtual 90, 3, 2, 10, 1, 484), (21, .ireturn, 1, 0, 0, 0, 0), (22, .aload_n 0, 1, 0, 0, 0, 0), (23, .getfield 59, 3, 437, 10, 10, 0), (26, .iload_n 1, 1, 0, 0, 0, 0), (27, .invokevirtual 345, 3, 3, 0, 1, 941), (30, .aload_n 0, 1, 0, 0, 0, 0), (31, .getfield 72, 3, 440, 10, 13, 0), (34, .aload_n 0, 1, 0, 0, 0, 0), (35, .getfield 63, 3, 438, 10, 11, 0), (38, .aload_n 0, 1, 0, 0, 0, 0), (39, .getfield 19, 3, 431, 10, 4, 0), (42, .getfield 127, 3, 179, 5, 0, 0), (45, .iload_n 1, 1, 0, 0, 0, 0), (46, .invokevirtual 348, 3, 4, 9, 3, 948), (49, .aload_n 0, 1, 0, 0, 0, 0), (50, .getfield 72, 3, 440, 10, 13, 0), (53, .getfield 352, 3, 370, 9, 3, 0), (56, .ifCond .ne 9, 3, 0, 0, 0, 0), (59, .aload_n 0, 1, 0, 0, 0, 0), (60, .iconst 5, 1, 0, 0, 0, 0), (61, .invokevirtual 90, 3, 2, 10, 1, 484), (64, .ireturn, 1, 0, 0, 0, 0), (65, .iload_n 2, 1, 0, 0, 0, 0), (66, .tableswitch 94 0 4 #[34, 46, 58, 70, 82], 34, 0, 0, 0, 0), (100, .aload_n 0, 1, 0, 0, 0, 0), (101, .aload_n 0, 1, 0, 0, 0, 0), (102, .getfield 72, 3, 440, 10, 13, 0), (105, .getfield 355, 3, 372, 9, 4, 0), (108, .invokevirtual 113, 3, 5, 10, 1, 520), (111, .ireturn, 1, 0, 0, 0, 0), (112, .aload_n 0, 1, 0, 0, 0, 0), (113, .aload_n 0, 1, 0, 0, 0, 0), (114, .getfield 72, 3, 440, 10, 13, 0), (117, .getfield 358, 3, 374, 9, 5, 0), (120, .invokevirtual 113, 3, 5, 10, 1, 520), (123, .ireturn, 1, 0, 0, 0, 0), (124, .aload_n 0, 1, 0, 0, 0, 0), (125, .aload_n 0, 1, 0, 0, 0, 0), (126, .getfield 72, 3, 440, 10, 13, 0), (129, .invokevirtual 361, 3, 6, 9, 0, 981), (132, .invokevirtual 113, 3, 5, 10, 1, 520), (135, .ireturn, 1, 0, 0, 0, 0), (136, .aload_n 0, 1, 0, 0, 0, 0), (137, .aload_n 0, 1, 0, 0, 0, 0), (138, .getfield 72, 3, 440, 10, 13, 0), (141, .invokevirtual 363, 3, 7, 9, 0, 989), (144, .invokevirtual 113, 3, 5, 10, 1, 520), (147, .ireturn, 1, 0, 0, 0, 0), (148, .aload_n 0, 1, 0, 0, 0, 0), (149, .aload_n 0, 1, 0, 0, 0, 0), (150, .getfield 72, 3, 440, 10, 13, 0), (153, .invokevirtual 366, 3, 8, 9, 0, 999), (156, .invokevirtual 113, 3, 5, 10, 1, 520), (159, .ireturn, 1, 0, 0, 0, 0), (160, .aload_n 0, 1, 0, 0, 0, 0), (161, .aload_n 0, 1, 0, 0, 0, 0), (162, .getfield 72, 3, 440, 10, 13, 0), (165, .invokevirtual 369, 3, 9, 9, 0, 1003), (168, .invokevirtual 113, 3, 5, 10, 1, 520), (171, .ireturn, 1, 0, 0, 0, 0)]
set_option maxRecDepth 100000 in
set_option maxHeartbeats 4000000 in
theorem c_X10_tone (l : Launch) (G : vg_G) (hp : vg_Hp G) : vg_Ct l G vg_sh r_X10_tone := by
  refine vg_meth hp vg_sh_ok r_X10_tone k_X10_tone rfl (fun h => by cases h) o_X10_tone [r_X10_isNumber, r_X10_within, r_X10_refuse, r_X0_add, r_X9_follow, r_X10_answer, r_X9_total, r_X9_unlike, r_X9_changes, r_X9_longestRun] false (by decide +kernel) (by decide +kernel) ⟨_, _, rfl, rfl⟩ (List.forall_mem_cons.mpr ⟨⟨c_X10_isNumber l G hp, Nat.le_of_ble_eq_true rfl, Nat.le_of_ble_eq_true rfl⟩, List.forall_mem_cons.mpr ⟨⟨c_X10_within l G hp, Nat.le_of_ble_eq_true rfl, Nat.le_of_ble_eq_true rfl⟩, List.forall_mem_cons.mpr ⟨⟨c_X10_refuse l G hp, Nat.le_of_ble_eq_true rfl, Nat.le_of_ble_eq_true rfl⟩, List.forall_mem_cons.mpr ⟨⟨c_X0_add l G hp, Nat.le_of_ble_eq_true rfl, Nat.le_of_ble_eq_true rfl⟩, List.forall_mem_cons.mpr ⟨⟨c_X9_follow l G hp, Nat.le_of_ble_eq_true rfl, Nat.le_of_ble_eq_true rfl⟩, List.forall_mem_cons.mpr ⟨⟨c_X10_answer l G hp, Nat.le_of_ble_eq_true rfl, Nat.le_of_ble_eq_true rfl⟩, List.forall_mem_cons.mpr ⟨⟨c_X9_total l G hp, Nat.le_of_ble_eq_true rfl, Nat.le_of_ble_eq_true rfl⟩, List.forall_mem_cons.mpr ⟨⟨c_X9_unlike l G hp, Nat.le_of_ble_eq_true rfl, Nat.le_of_ble_eq_true rfl⟩, List.forall_mem_cons.mpr ⟨⟨c_X9_changes l G hp, Nat.le_of_ble_eq_true rfl, Nat.le_of_ble_eq_true rfl⟩, List.forall_mem_cons.mpr ⟨⟨c_X9_longestRun l G hp, Nat.le_of_ble_eq_true rfl, Nat.le_of_ble_eq_true rfl⟩, fun _ h => absurd h List.not_mem_nil⟩⟩⟩⟩⟩⟩⟩⟩⟩⟩) (fun h => by cases h) 600 ?_
  intro as s0 hpre
  obtain ⟨r, a1, a2, rfl, hr, i0⟩ := hpre
  simp only [List.mem_cons, List.not_mem_nil, or_false] at hr
  rcases hr with rfl
  ·
    have z0 : (Int32.ofInt 0).toInt = 0 := by decide
    have z1 : (Int32.ofInt 1).toInt = 1 := by decide
    have z5 : (Int32.ofInt 5).toInt = 5 := by decide
    refine ⟨Nat.le_of_ble_eq_true rfl, [], ?_, fun _ h => absurd h List.not_mem_nil⟩
    ·
      refine And.intro (Nat.le_of_ble_eq_true rfl) (And.intro ⟨a1, rfl, trivial⟩ ?_)
      intro v1 s3 h2
      have h2 : s3 = s0 ∧ ((v1.toInt = 1 ∧ -30000 ≤ a1.toInt ∧ a1.toInt ≤ 30000) ∨ (v1.toInt = 0 ∧ (a1.toInt < -30000 ∨ 30000 < a1.toInt))) := h2
      have q6 := h2.1.symm
      subst q6
      have q7 := h2.2
      refine And.intro (fun c8 => ?_) (fun c8 => ?_)
      · have c8 : v1.toInt = 0 := c8
        refine And.intro (Nat.le_of_ble_eq_true rfl) (And.intro ⟨0, (Int32.ofInt 1), rfl, by decide, i0⟩ ?_)
        intro v9 s11 h10
        have h10 : Iv s11 ∧ Kp s0 s11 ∧ (v9.toInt = -1) := h10
        have i12 := h10.1
        have k13 : K_X10_tone s0 s11 := Kx.tr Kx.rf ((h10.2.1).px)
        have q14 := h10.2.2
        show Iv s11 ∧ K_X10_tone s0 s11 ∧ (((-30000 ≤ a1.toInt ∧ a1.toInt ≤ 30000 ∧ 0 ≤ a2.toInt ∧ a2.toInt ≤ 5) ∧ vg_adk (s0.1 20 1).toInt (s0.1 21) a1 (s11.1 20 1).toInt (s11.1 21)) ∨ (¬ (-30000 ≤ a1.toInt ∧ a1.toInt ≤ 30000 ∧ 0 ≤ a2.toInt ∧ a2.toInt ≤ 5) ∧ (s11.1 20 1).toInt = (s0.1 20 1).toInt ∧ ∀ j : Nat, s11.1 21 j = s0.1 21 j))
        exact ⟨i12, k13, (by first | exact Or.inl ⟨by omega, None⟩ | exact Or.inr ⟨by omega, congrArg Int32.toInt (h10.2.1.1 20 1 rfl), fun j => h10.2.1.1 21 j rfl⟩)⟩
      · have c8 : ¬ (v1.toInt = 0) := c8
        refine And.intro (Nat.le_of_ble_eq_true rfl) (And.intro ⟨a2, (Int32.ofInt 0), (Int32.ofInt 5), rfl, trivial⟩ ?_)
        intro v15 s17 h16
        have h16 : s17 = s0 ∧ ((v15.toInt = 1 ∧ (Int32.ofInt 0).toInt ≤ a2.toInt ∧ a2.toInt ≤ (Int32.ofInt 5).toInt) ∨ (v15.toInt = 0 ∧ (a2.toInt < (Int32.ofInt 0).toInt ∨ (Int32.ofInt 5).toInt < a2.toInt))) := h16
        have q20 := h16.1.symm
        subst q20
        have q21 := h16.2
        refine And.intro (fun c22 => ?_) (fun c22 => ?_)
        · have c22 : ¬ v15.toInt = 0 := c22
          refine And.intro (Nat.le_of_ble_eq_true rfl) (And.intro ⟨20, a1, rfl, by decide, i0⟩ ?_)
          intro s24 h23
          have h23 : Iv s24 ∧ K_X0_add s0 s24 ∧ (vg_adk (s0.1 20 1).toInt (s0.1 21) a1 (s24.1 20 1).toInt (s24.1 21)) := h23
          have i25 := h23.1
          have k26 : K_X10_tone s0 s24 := Kx.tr Kx.rf ((h23.2.1).xx (by decide))
          have q27 := h23.2.2
          have y28 : vg_adk (s0.1 20 1).toInt (s0.1 21) a1 (s24.1 20 1).toInt (s24.1 21) := q27
          refine And.intro (Nat.le_of_ble_eq_true rfl) (And.intro ⟨31, 22, 4, a1, rfl, by decide, by decide, by decide, i25⟩ ?_)
          intro s30 h29
          have h29 : Iv s30 ∧ Kr s24 s30 ∧ (0 ≤ (s30.1 31 4).toInt ∧ 0 ≤ (s30.1 31 5).toInt ∧ (s30.1 31 4).toInt + (s30.1 31 5).toInt ≤ 1000) := h29
          have i31 := h29.1
          have k32 : K_X10_tone s0 s30 := Kx.tr k26 ((h29.2.1).rx)
          have q33 := h29.2.2
          have y34 : vg_adk (s0.1 20 1).toInt (s0.1 21) a1 (s30.1 20 1).toInt (s30.1 21) := by rw [h29.2.1.1 20 1 rfl, show s30.1 21 = s24.1 21 from funext (fun j => h29.2.1.1 21 j rfl)]; exact y28
          intro v35 e36
          have g37 : s30.1 31 3 = v35 := by rw [e36]
          refine And.intro (fun c38 => ?_) (fun c38 => ?_)
          · have c38 : ¬ v35.toInt = 0 := c38
            refine And.intro (fun c39 => ?_) ?_
            · have c39 : a2.toInt < (0) ∨ (4) < a2.toInt := c39
              refine And.intro (Nat.le_of_ble_eq_true rfl) (And.intro ⟨31, rfl, by decide, i31, by omega⟩ ?_)
              intro v40 s42 h41
              have h41 : s42 = s30 ∧ (True) := h41
              have q45 := h41.1.symm
              subst q45
              refine And.intro (Nat.le_of_ble_eq_true rfl) (And.intro ⟨0, v40, rfl, by decide, i31⟩ ?_)
              intro v46 s48 h47
              have h47 : Iv s48 ∧ Kp s30 s48 ∧ (v46 = v40 ∧ v46.toInt = v40.toInt) := h47
              have i49 := h47.1
              have k50 : K_X10_tone s0 s48 := Kx.tr k32 ((h47.2.1).px)
              have q51 := h47.2.2
              have y52 : vg_adk (s0.1 20 1).toInt (s0.1 21) a1 (s48.1 20 1).toInt (s48.1 21) := by rw [h47.2.1.1 20 1 rfl, show s48.1 21 = s30.1 21 from funext (fun j => h47.2.1.1 21 j rfl)]; exact y34
              show Iv s48 ∧ K_X10_tone s0 s48 ∧ (((-30000 ≤ a1.toInt ∧ a1.toInt ≤ 30000 ∧ 0 ≤ a2.toInt ∧ a2.toInt ≤ 5) ∧ vg_adk (s0.1 20 1).toInt (s0.1 21) a1 (s48.1 20 1).toInt (s48.1 21)) ∨ (¬ (-30000 ≤ a1.toInt ∧ a1.toInt ≤ 30000 ∧ 0 ≤ a2.toInt ∧ a2.toInt ≤ 5) ∧ (s48.1 20 1).toInt = (s0.1 20 1).toInt ∧ ∀ j : Nat, s48.1 21 j = s0.1 21 j))
              exact ⟨i49, k50, (by first | exact Or.inl ⟨by omega, y52⟩ | exact Or.inr ⟨by omega, congrArg Int32.toInt (h47.2.1.1 20 1 rfl), fun j => h47.2.1.1 21 j rfl⟩)⟩
            refine And.intro (fun c53 => ?_) ?_
            · have c53 : a2.toInt = (0) := c53
              intro v54 e55
              have g56 : s30.1 31 4 = v54 := by rw [e55]
              refine And.intro (Nat.le_of_ble_eq_true rfl) (And.intro ⟨0, v54, rfl, by decide, i31⟩ ?_)
              intro v57 s59 h58
              have h58 : Iv s59 ∧ Kp s30 s59 ∧ (v57 = v54 ∧ v57.toInt = v54.toInt) := h58
              have i60 := h58.1
              have k61 : K_X10_tone s0 s59 := Kx.tr k32 ((h58.2.1).px)
              have q62 := h58.2.2
              have y63 : vg_adk (s0.1 20 1).toInt (s0.1 21) a1 (s59.1 20 1).toInt (s59.1 21) := by rw [h58.2.1.1 20 1 rfl, show s59.1 21 = s30.1 21 from funext (fun j => h58.2.1.1 21 j rfl)]; exact y34
              show Iv s59 ∧ K_X10_tone s0 s59 ∧ (((-30000 ≤ a1.toInt ∧ a1.toInt ≤ 30000 ∧ 0 ≤ a2.toInt ∧ a2.toInt ≤ 5) ∧ vg_adk (s0.1 20 1).toInt (s0.1 21) a1 (s59.1 20 1).toInt (s59.1 21)) ∨ (¬ (-30000 ≤ a1.toInt ∧ a1.toInt ≤ 30000 ∧ 0 ≤ a2.toInt ∧ a2.toInt ≤ 5) ∧ (s59.1 20 1).toInt = (s0.1 20 1).toInt ∧ ∀ j : Nat, s59.1 21 j = s0.1 21 j))
              exact ⟨i60, k61, (by first | exact Or.inl ⟨by omega, y63⟩ | exact Or.inr ⟨by omega, congrArg Int32.toInt (h58.2.1.1 20 1 rfl), fun j => h58.2.1.1 21 j rfl⟩)⟩
            refine And.intro (fun c64 => ?_) ?_
            · have c64 : a2.toInt = (1) := c64
              intro v65 e66
              have g67 : s30.1 31 5 = v65 := by rw [e66]
              refine And.intro (Nat.le_of_ble_eq_true rfl) (And.intro ⟨0, v65, rfl, by decide, i31⟩ ?_)
              intro v68 s70 h69
              have h69 : Iv s70 ∧ Kp s30 s70 ∧ (v68 = v65 ∧ v68.toInt = v65.toInt) := h69
              have i71 := h69.1
              have k72 : K_X10_tone s0 s70 := Kx.tr k32 ((h69.2.1).px)
              have q73 := h69.2.2
              have y74 : vg_adk (s0.1 20 1).toInt (s0.1 21) a1 (s70.1 20 1).toInt (s70.1 21) := by rw [h69.2.1.1 20 1 rfl, show s70.1 21 = s30.1 21 from funext (fun j => h69.2.1.1 21 j rfl)]; exact y34
              show Iv s70 ∧ K_X10_tone s0 s70 ∧ (((-30000 ≤ a1.toInt ∧ a1.toInt ≤ 30000 ∧ 0 ≤ a2.toInt ∧ a2.toInt ≤ 5) ∧ vg_adk (s0.1 20 1).toInt (s0.1 21) a1 (s70.1 20 1).toInt (s70.1 21)) ∨ (¬ (-30000 ≤ a1.toInt ∧ a1.toInt ≤ 30000 ∧ 0 ≤ a2.toInt ∧ a2.toInt ≤ 5) ∧ (s70.1 20 1).toInt = (s0.1 20 1).toInt ∧ ∀ j : Nat, s70.1 21 j = s0.1 21 j))
              exact ⟨i71, k72, (by first | exact Or.inl ⟨by omega, y74⟩ | exact Or.inr ⟨by omega, congrArg Int32.toInt (h69.2.1.1 20 1 rfl), fun j => h69.2.1.1 21 j rfl⟩)⟩
            refine And.intro (fun c75 => ?_) ?_
            · have c75 : a2.toInt = (2) := c75
              refine And.intro (Nat.le_of_ble_eq_true rfl) (And.intro ⟨31, rfl, by decide, i31, by omega⟩ ?_)
              intro v76 s78 h77
              have h77 : s78 = s30 ∧ (True) := h77
              have q81 := h77.1.symm
              subst q81
              refine And.intro (Nat.le_of_ble_eq_true rfl) (And.intro ⟨0, v76, rfl, by decide, i31⟩ ?_)
              intro v82 s84 h83
              have h83 : Iv s84 ∧ Kp s30 s84 ∧ (v82 = v76 ∧ v82.toInt = v76.toInt) := h83
              have i85 := h83.1
              have k86 : K_X10_tone s0 s84 := Kx.tr k32 ((h83.2.1).px)
              have q87 := h83.2.2
              have y88 : vg_adk (s0.1 20 1).toInt (s0.1 21) a1 (s84.1 20 1).toInt (s84.1 21) := by rw [h83.2.1.1 20 1 rfl, show s84.1 21 = s30.1 21 from funext (fun j => h83.2.1.1 21 j rfl)]; exact y34
              show Iv s84 ∧ K_X10_tone s0 s84 ∧ (((-30000 ≤ a1.toInt ∧ a1.toInt ≤ 30000 ∧ 0 ≤ a2.toInt ∧ a2.toInt ≤ 5) ∧ vg_adk (s0.1 20 1).toInt (s0.1 21) a1 (s84.1 20 1).toInt (s84.1 21)) ∨ (¬ (-30000 ≤ a1.toInt ∧ a1.toInt ≤ 30000 ∧ 0 ≤ a2.toInt ∧ a2.toInt ≤ 5) ∧ (s84.1 20 1).toInt = (s0.1 20 1).toInt ∧ ∀ j : Nat, s84.1 21 j = s0.1 21 j))
              exact ⟨i85, k86, (by first | exact Or.inl ⟨by omega, y88⟩ | exact Or.inr ⟨by omega, congrArg Int32.toInt (h83.2.1.1 20 1 rfl), fun j => h83.2.1.1 21 j rfl⟩)⟩
            refine And.intro (fun c89 => ?_) ?_
            · have c89 : a2.toInt = (3) := c89
              refine And.intro (Nat.le_of_ble_eq_true rfl) (And.intro ⟨31, rfl, by decide, i31, by omega⟩ ?_)
              intro v90 s92 h91
              have h91 : s92 = s30 ∧ (True) := h91
              have q95 := h91.1.symm
              subst q95
              refine And.intro (Nat.le_of_ble_eq_true rfl) (And.intro ⟨0, v90, rfl, by decide, i31⟩ ?_)
              intro v96 s98 h97
              have h97 : Iv s98 ∧ Kp s30 s98 ∧ (v96 = v90 ∧ v96.toInt = v90.toInt) := h97
              have i99 := h97.1
              have k100 : K_X10_tone s0 s98 := Kx.tr k32 ((h97.2.1).px)
              have q101 := h97.2.2
              have y102 : vg_adk (s0.1 20 1).toInt (s0.1 21) a1 (s98.1 20 1).toInt (s98.1 21) := by rw [h97.2.1.1 20 1 rfl, show s98.1 21 = s30.1 21 from funext (fun j => h97.2.1.1 21 j rfl)]; exact y34
              show Iv s98 ∧ K_X10_tone s0 s98 ∧ (((-30000 ≤ a1.toInt ∧ a1.toInt ≤ 30000 ∧ 0 ≤ a2.toInt ∧ a2.toInt ≤ 5) ∧ vg_adk (s0.1 20 1).toInt (s0.1 21) a1 (s98.1 20 1).toInt (s98.1 21)) ∨ (¬ (-30000 ≤ a1.toInt ∧ a1.toInt ≤ 30000 ∧ 0 ≤ a2.toInt ∧ a2.toInt ≤ 5) ∧ (s98.1 20 1).toInt = (s0.1 20 1).toInt ∧ ∀ j : Nat, s98.1 21 j = s0.1 21 j))
              exact ⟨i99, k100, (by first | exact Or.inl ⟨by omega, y102⟩ | exact Or.inr ⟨by omega, congrArg Int32.toInt (h97.2.1.1 20 1 rfl), fun j => h97.2.1.1 21 j rfl⟩)⟩
            refine And.intro (fun c103 => ?_) ?_
            · have c103 : a2.toInt = (4) := c103
              refine And.intro (Nat.le_of_ble_eq_true rfl) (And.intro ⟨31, rfl, by decide, i31, by omega⟩ ?_)
              intro v104 s106 h105
              have h105 : s106 = s30 ∧ (True) := h105
              have q109 := h105.1.symm
              subst q109
              refine And.intro (Nat.le_of_ble_eq_true rfl) (And.intro ⟨0, v104, rfl, by decide, i31⟩ ?_)
              intro v110 s112 h111
              have h111 : Iv s112 ∧ Kp s30 s112 ∧ (v110 = v104 ∧ v110.toInt = v104.toInt) := h111
              have i113 := h111.1
              have k114 : K_X10_tone s0 s112 := Kx.tr k32 ((h111.2.1).px)
              have q115 := h111.2.2
              have y116 : vg_adk (s0.1 20 1).toInt (s0.1 21) a1 (s112.1 20 1).toInt (s112.1 21) := by rw [h111.2.1.1 20 1 rfl, show s112.1 21 = s30.1 21 from funext (fun j => h111.2.1.1 21 j rfl)]; exact y34
              show Iv s112 ∧ K_X10_tone s0 s112 ∧ (((-30000 ≤ a1.toInt ∧ a1.toInt ≤ 30000 ∧ 0 ≤ a2.toInt ∧ a2.toInt ≤ 5) ∧ vg_adk (s0.1 20 1).toInt (s0.1 21) a1 (s112.1 20 1).toInt (s112.1 21)) ∨ (¬ (-30000 ≤ a1.toInt ∧ a1.toInt ≤ 30000 ∧ 0 ≤ a2.toInt ∧ a2.toInt ≤ 5) ∧ (s112.1 20 1).toInt = (s0.1 20 1).toInt ∧ ∀ j : Nat, s112.1 21 j = s0.1 21 j))
              exact ⟨i113, k114, (by first | exact Or.inl ⟨by omega, y116⟩ | exact Or.inr ⟨by omega, congrArg Int32.toInt (h111.2.1.1 20 1 rfl), fun j => h111.2.1.1 21 j rfl⟩)⟩
            exact trivial
          · have c38 : ¬ (¬ v35.toInt = 0) := c38
            refine And.intro (Nat.le_of_ble_eq_true rfl) (And.intro ⟨0, (Int32.ofInt 5), rfl, by decide, i31⟩ ?_)
            intro v117 s119 h118
            have h118 : Iv s119 ∧ Kp s30 s119 ∧ (v117.toInt = -1) := h118
            have i120 := h118.1
            have k121 : K_X10_tone s0 s119 := Kx.tr k32 ((h118.2.1).px)
            have q122 := h118.2.2
            have y123 : vg_adk (s0.1 20 1).toInt (s0.1 21) a1 (s119.1 20 1).toInt (s119.1 21) := by rw [h118.2.1.1 20 1 rfl, show s119.1 21 = s30.1 21 from funext (fun j => h118.2.1.1 21 j rfl)]; exact y34
            show Iv s119 ∧ K_X10_tone s0 s119 ∧ (((-30000 ≤ a1.toInt ∧ a1.toInt ≤ 30000 ∧ 0 ≤ a2.toInt ∧ a2.toInt ≤ 5) ∧ vg_adk (s0.1 20 1).toInt (s0.1 21) a1 (s119.1 20 1).toInt (s119.1 21)) ∨ (¬ (-30000 ≤ a1.toInt ∧ a1.toInt ≤ 30000 ∧ 0 ≤ a2.toInt ∧ a2.toInt ≤ 5) ∧ (s119.1 20 1).toInt = (s0.1 20 1).toInt ∧ ∀ j : Nat, s119.1 21 j = s0.1 21 j))
            exact ⟨i120, k121, (by first | exact Or.inl ⟨by omega, y123⟩ | exact Or.inr ⟨by omega, congrArg Int32.toInt (h118.2.1.1 20 1 rfl), fun j => h118.2.1.1 21 j rfl⟩)⟩
        · have c22 : ¬ (¬ v15.toInt = 0) := c22
          refine And.intro (Nat.le_of_ble_eq_true rfl) (And.intro ⟨0, (Int32.ofInt 1), rfl, by decide, i0⟩ ?_)
          intro v124 s126 h125
          have h125 : Iv s126 ∧ Kp s0 s126 ∧ (v124.toInt = -1) := h125
          have i127 := h125.1
          have k128 : K_X10_tone s0 s126 := Kx.tr Kx.rf ((h125.2.1).px)
          have q129 := h125.2.2
          show Iv s126 ∧ K_X10_tone s0 s126 ∧ (((-30000 ≤ a1.toInt ∧ a1.toInt ≤ 30000 ∧ 0 ≤ a2.toInt ∧ a2.toInt ≤ 5) ∧ vg_adk (s0.1 20 1).toInt (s0.1 21) a1 (s126.1 20 1).toInt (s126.1 21)) ∨ (¬ (-30000 ≤ a1.toInt ∧ a1.toInt ≤ 30000 ∧ 0 ≤ a2.toInt ∧ a2.toInt ≤ 5) ∧ (s126.1 20 1).toInt = (s0.1 20 1).toInt ∧ ∀ j : Nat, s126.1 21 j = s0.1 21 j))
          exact ⟨i127, k128, (by first | exact Or.inl ⟨by omega, None⟩ | exact Or.inr ⟨by omega, congrArg Int32.toInt (h125.2.1.1 20 1 rfl), fun j => h125.2.1.1 21 j rfl⟩)⟩
def o_X10_idle : List vg_I := [(0, .iload_n 1, 1, 0, 0, 0, 0), (1, .invokestatic 86, 3, 0, 1, 1, 481), (4, .ifCond .eq 34, 3, 0, 0, 0, 0), (7, .iload_n 2, 1, 0, 0, 0, 0), (8, .iconst 1, 1, 0, 0, 0, 0), (9, .bipush 60, 2, 0, 0, 0, 0), (11, .invokestatic 82, 3, 1, 1, 3, 478), (14, .ifCond .eq 24, 3, 0, 0, 0, 0), (17, .iload_n 3, 1, 0, 0, 0, 0), (18, .iconst 1, 1, 0, 0, 0, 0), (19, .sipush 1000, 3, 0, 0, 0, 0), (22, .invokestatic 82, 3, 1, 1, 3, 478), (25, .ifCond .eq 13, 3, 0, 0, 0, 0), (28, .iload 4, 2, 0, 0, 0, 0), (30, .iconst 0, 1, 0, 0, 0, 0), (31, .iconst 1, 1, 0, 0, 0, 0), (32, .invokestatic 82, 3, 1, 1, 3, 478), (35, .ifCond .ne 9, 3, 0, 0, 0, 0), (38, .aload_n 0, 1, 0, 0, 0, 0), (39, .iconst 1, 1, 0, 0, 0, 0), (40, .invokevirtual 90, 3, 2, 10, 1, 484), (43, .ireturn, 1, 0, 0, 0, 0), (44, .iload_n 1, 1, 0, 0, 0, 0), (45, .iload_n 2, 1, 0, 0, 0, 0), (46, .iadd, 1, 0, 0, 0, 0), (47, .iconst 1, 1, 0, 0, 0, 0), (48, .isub, 1, 0, 0, 0, 0), (49, .invokestatic 86, 3, 0, 1, 1, 481), (52, .ifCond .ne 9, 3, 0, 0, 0, 0), (55, .aload_n 0, 1, 0, 0, 0, 0), (56, .iconst 1, 1, 0, 0, 0, 0), (57, .invokevirtual 90, 3, 2, 10, 1, 484), (60, .ireturn, 1, 0, 0, 0, 0), (61, .iconst 0, 1, 0, 0, 0, 0), (62, .istore 5, 2, 0, 0, 0, 0), (64, .sipush 1001, 3, 0, 0, 0, 0), (67, .istore 6, 2, 0, 0, 0, 0), (69, .iload_n 1, 1, 0, 0, 0, 0), (70, .istore 7, 2, 0, 0, 0, 0), (72, .iconst 0, 1, 0, 0, 0, 0), (73, .istore 8, 2, 0, 0, 0, 0), (75, .iload 8, 2, 0, 0, 0, 0), (77, .iload_n 2, 1, 0, 0, 0, 0), (78, .if_icmp .ge 82, 3, 0, 0, 0, 0), (81, .aload_n 0, 1, 0, 0, 0, 0), (82, .getfield 72, 3, 440, 10, 13, 0), (85, .aload_n 0, 1, 0, 0, 0, 0), (86, .getfield 63, 3, 438, 10, 11, 0), (89, .aload_n 0, 1, 0, 0, 0, 0), (90, .getfield 19, 3, 431, 10, 4, 0), (93, .getfield 127, 3, 179, 5, 0, 0), (96, .iload_n 1, 1, 0, 0, 0, 0), (97, .iload 8, 2, 0, 0, 0, 0), (99, .iadd, 1, 0, 0, 0, 0), (100, .invokevirtual 348, 3, 3, 9, 3, 948), (103, .aload_n 0, 1, 0, 0, 0, 0), (104, .getfield 72, 3, 440, 10, 13, 0), (107, .getfield 352, 3, 370, 9, 3, 0), (110, .ifCond .eq 44, 3, 0, 0, 0, 0), (113, .aload_n 0, 1, 0, 0, 0, 0), (114, .getfield 72, 3, 440, 10, 13, 0), (117, .getfield 358, 3, 374, 9, 5, 0), (120, .iload_n 3, 1, 0, 0, 0, 0), (121, .if_icmp .gt 33, 3, 0, 0, 0, 0), (124, .iinc 5 1, 3, 0, 0, 0, 0), (127, .aload_n 0, 1, 0, 0, 0, 0), (128, .getfield 72, 3, 440, 10, 13, 0), (131, .getfield 358, 3, 374, 9, 5, 0), (134, .iload 6, 2, 0, 0, 0, 0), (136, .if_icmp .ge 18, 3, 0, 0, 0, 0), (139, .aload_n 0, 1, 0, 0, 0, 0), (140, .getfield 72, 3, 440, 10, 13, 0), (143, .getfield 358, 3, 374, 9, 5, 0), (146, .istore 6, 2, 0, 0, 0, 0), (148, .iload_n 1, 1, 0, 0, 0, 0), (149, .iload 8, 2, 0, 0, 0, 0), (151, .iadd, 1, 0, 0, 0, 0), (152, .istore 7, 2, 0, 0, 0, 0), (154, .iinc 8 1, 3, 0, 0, 0, 0), (157, .goto (-82), 3, 0, 0, 0, 0), (160, .iload 4, 2, 0, 0, 0, 0), (162, .ifCond .ne 10, 3, 0, 0, 0, 0), (165, .aload_n 0, 1, 0, 0, 0, 0), (166, .iload 5, 2, 0, 0, 0, 0), (168, .invokevirtual 113, 3, 4, 10, 1, 520), (171, .ireturn, 1, 0, 0, 0, 0), (172, .iload 5, 2, 0, 0, 0, 0), (174, .ifCond .ne 11, 3, 0, 0, 0, 0), (177, .aload_n 0, 1, 0, 0, 0, 0), (178, .iconst 5, 1, 0, 0, 0, 0), (179, .invokevirtual 90, 3, 2, 10, 1, 484), (182, .goto 9, 3, 0, 0, 0, 0), (185, .aload_n 0, 1, 0, 0, 0, 0), (186, .iload 7, 2, 0, 0, 0, 0), (188, .invokevirtual 113, 3, 4, 10, 1, 520), (191, .ireturn, 1, 0, 0, 0, 0)]
set_option maxRecDepth 100000 in
set_option maxHeartbeats 4000000 in
theorem c_X10_idle (l : Launch) (G : vg_G) (hp : vg_Hp G) : vg_Ct l G vg_sh r_X10_idle := by
  refine vg_meth hp vg_sh_ok r_X10_idle k_X10_idle rfl (fun h => by cases h) o_X10_idle [r_X10_isNumber, r_X10_within, r_X10_refuse, r_X9_follow, r_X10_answer] false (by decide +kernel) (by decide +kernel) ⟨_, _, rfl, rfl⟩ (List.forall_mem_cons.mpr ⟨⟨c_X10_isNumber l G hp, Nat.le_of_ble_eq_true rfl, Nat.le_of_ble_eq_true rfl⟩, List.forall_mem_cons.mpr ⟨⟨c_X10_within l G hp, Nat.le_of_ble_eq_true rfl, Nat.le_of_ble_eq_true rfl⟩, List.forall_mem_cons.mpr ⟨⟨c_X10_refuse l G hp, Nat.le_of_ble_eq_true rfl, Nat.le_of_ble_eq_true rfl⟩, List.forall_mem_cons.mpr ⟨⟨c_X9_follow l G hp, Nat.le_of_ble_eq_true rfl, Nat.le_of_ble_eq_true rfl⟩, List.forall_mem_cons.mpr ⟨⟨c_X10_answer l G hp, Nat.le_of_ble_eq_true rfl, Nat.le_of_ble_eq_true rfl⟩, fun _ h => absurd h List.not_mem_nil⟩⟩⟩⟩⟩) (fun h => by cases h) 600 ?_
  intro as s0 hpre
  obtain ⟨r, a1, a2, a3, a4, rfl, hr, i0⟩ := hpre
  simp only [List.mem_cons, List.not_mem_nil, or_false] at hr
  rcases hr with rfl
  ·
    have z0 : (Int32.ofInt 0).toInt = 0 := by decide
    have z1 : (Int32.ofInt 1).toInt = 1 := by decide
    have z5 : (Int32.ofInt 5).toInt = 5 := by decide
    have z60 : (Int32.ofInt 60).toInt = 60 := by decide
    have z1000 : (Int32.ofInt 1000).toInt = 1000 := by decide
    have z1001 : (Int32.ofInt 1001).toInt = 1001 := by decide
    refine ⟨Nat.le_of_ble_eq_true rfl, [(75, [true, true, true, true, true, true, true, true, true], (fun L t => ∃ (x5 : Int32) (x6 : Int32) (x7 : Int32) (x8 : Int32), L = [some (.ref 0), some (.int a1), some (.int a2), some (.int a3), some (.int a4), some (.int x5), some (.int x6), some (.int x7), some (.int x8)] ∧ (0 : Int) ≤ x8.toInt ∧ x8.toInt ≤ (60 : Int) ∧ (-30000 : Int) ≤ a1.toInt ∧ a1.toInt ≤ (30000 : Int) ∧ (1 : Int) ≤ a2.toInt ∧ a2.toInt ≤ (60 : Int) ∧ (1 : Int) ≤ a3.toInt ∧ a3.toInt ≤ (1000 : Int) ∧ (0 : Int) ≤ a4.toInt ∧ a4.toInt ≤ (1 : Int) ∧ Iv t ∧ Kr s0 t), (fun L _ => (0 + (60 - (vg_li L 8).toInt) * 1000000000000).toNat))], ?_, List.forall_mem_cons.mpr ⟨?_, fun _ h => absurd h List.not_mem_nil⟩⟩
    ·
      refine And.intro (Nat.le_of_ble_eq_true rfl) (And.intro ⟨a1, rfl, trivial⟩ ?_)
      intro v1 s3 h2
      have h2 : s3 = s0 ∧ ((v1.toInt = 1 ∧ -30000 ≤ a1.toInt ∧ a1.toInt ≤ 30000) ∨ (v1.toInt = 0 ∧ (a1.toInt < -30000 ∨ 30000 < a1.toInt))) := h2
      have q6 := h2.1.symm
      subst q6
      have q7 := h2.2
      refine And.intro (fun c8 => ?_) (fun c8 => ?_)
      · have c8 : v1.toInt = 0 := c8
        refine And.intro (Nat.le_of_ble_eq_true rfl) (And.intro ⟨0, (Int32.ofInt 1), rfl, by decide, i0⟩ ?_)
        intro v9 s11 h10
        have h10 : Iv s11 ∧ Kp s0 s11 ∧ (v9.toInt = -1) := h10
        have i12 := h10.1
        have k13 : Kr s0 s11 := Kx.tr Kx.rf (((h10.2.1).pc).cr)
        have q14 := h10.2.2
        show Iv s11 ∧ Kr s0 s11 ∧ (True)
        exact ⟨i12, k13, (trivial)⟩
      · have c8 : ¬ (v1.toInt = 0) := c8
        refine And.intro (Nat.le_of_ble_eq_true rfl) (And.intro ⟨a2, (Int32.ofInt 1), (Int32.ofInt 60), rfl, trivial⟩ ?_)
        intro v15 s17 h16
        have h16 : s17 = s0 ∧ ((v15.toInt = 1 ∧ (Int32.ofInt 1).toInt ≤ a2.toInt ∧ a2.toInt ≤ (Int32.ofInt 60).toInt) ∨ (v15.toInt = 0 ∧ (a2.toInt < (Int32.ofInt 1).toInt ∨ (Int32.ofInt 60).toInt < a2.toInt))) := h16
        have q20 := h16.1.symm
        subst q20
        have q21 := h16.2
        refine And.intro (fun c22 => ?_) (fun c22 => ?_)
        · have c22 : v15.toInt = 0 := c22
          refine And.intro (Nat.le_of_ble_eq_true rfl) (And.intro ⟨0, (Int32.ofInt 1), rfl, by decide, i0⟩ ?_)
          intro v23 s25 h24
          have h24 : Iv s25 ∧ Kp s0 s25 ∧ (v23.toInt = -1) := h24
          have i26 := h24.1
          have k27 : Kr s0 s25 := Kx.tr Kx.rf (((h24.2.1).pc).cr)
          have q28 := h24.2.2
          show Iv s25 ∧ Kr s0 s25 ∧ (True)
          exact ⟨i26, k27, (trivial)⟩
        · have c22 : ¬ (v15.toInt = 0) := c22
          refine And.intro (Nat.le_of_ble_eq_true rfl) (And.intro ⟨a3, (Int32.ofInt 1), (Int32.ofInt 1000), rfl, trivial⟩ ?_)
          intro v29 s31 h30
          have h30 : s31 = s0 ∧ ((v29.toInt = 1 ∧ (Int32.ofInt 1).toInt ≤ a3.toInt ∧ a3.toInt ≤ (Int32.ofInt 1000).toInt) ∨ (v29.toInt = 0 ∧ (a3.toInt < (Int32.ofInt 1).toInt ∨ (Int32.ofInt 1000).toInt < a3.toInt))) := h30
          have q34 := h30.1.symm
          subst q34
          have q35 := h30.2
          refine And.intro (fun c36 => ?_) (fun c36 => ?_)
          · have c36 : v29.toInt = 0 := c36
            refine And.intro (Nat.le_of_ble_eq_true rfl) (And.intro ⟨0, (Int32.ofInt 1), rfl, by decide, i0⟩ ?_)
            intro v37 s39 h38
            have h38 : Iv s39 ∧ Kp s0 s39 ∧ (v37.toInt = -1) := h38
            have i40 := h38.1
            have k41 : Kr s0 s39 := Kx.tr Kx.rf (((h38.2.1).pc).cr)
            have q42 := h38.2.2
            show Iv s39 ∧ Kr s0 s39 ∧ (True)
            exact ⟨i40, k41, (trivial)⟩
          · have c36 : ¬ (v29.toInt = 0) := c36
            refine And.intro (Nat.le_of_ble_eq_true rfl) (And.intro ⟨a4, (Int32.ofInt 0), (Int32.ofInt 1), rfl, trivial⟩ ?_)
            intro v43 s45 h44
            have h44 : s45 = s0 ∧ ((v43.toInt = 1 ∧ (Int32.ofInt 0).toInt ≤ a4.toInt ∧ a4.toInt ≤ (Int32.ofInt 1).toInt) ∨ (v43.toInt = 0 ∧ (a4.toInt < (Int32.ofInt 0).toInt ∨ (Int32.ofInt 1).toInt < a4.toInt))) := h44
            have q48 := h44.1.symm
            subst q48
            have q49 := h44.2
            refine And.intro (fun c50 => ?_) (fun c50 => ?_)
            · have c50 : ¬ v43.toInt = 0 := c50
              intro v51 e52
              have b53 := vg_add e52 (by omega) (by omega)
              intro v54 e55
              have b56 := vg_sub e55 (by omega) (by omega)
              refine And.intro (Nat.le_of_ble_eq_true rfl) (And.intro ⟨v54, rfl, trivial⟩ ?_)
              intro v57 s59 h58
              have h58 : s59 = s0 ∧ ((v57.toInt = 1 ∧ -30000 ≤ v54.toInt ∧ v54.toInt ≤ 30000) ∨ (v57.toInt = 0 ∧ (v54.toInt < -30000 ∨ 30000 < v54.toInt))) := h58
              have q62 := h58.1.symm
              subst q62
              have q63 := h58.2
              refine And.intro (fun c64 => ?_) (fun c64 => ?_)
              · have c64 : ¬ v57.toInt = 0 := c64
                exact ⟨rfl, ⟨(Int32.ofInt 0), (Int32.ofInt 1001), a1, (Int32.ofInt 0), rfl, (by omega), (by omega), (by omega), (by omega), (by omega), (by omega), (by omega), (by omega), (by omega), (by omega), i0, Kx.rf⟩, trivial⟩
              · have c64 : ¬ (¬ v57.toInt = 0) := c64
                refine And.intro (Nat.le_of_ble_eq_true rfl) (And.intro ⟨0, (Int32.ofInt 1), rfl, by decide, i0⟩ ?_)
                intro v65 s67 h66
                have h66 : Iv s67 ∧ Kp s0 s67 ∧ (v65.toInt = -1) := h66
                have i68 := h66.1
                have k69 : Kr s0 s67 := Kx.tr Kx.rf (((h66.2.1).pc).cr)
                have q70 := h66.2.2
                show Iv s67 ∧ Kr s0 s67 ∧ (True)
                exact ⟨i68, k69, (trivial)⟩
            · have c50 : ¬ (¬ v43.toInt = 0) := c50
              refine And.intro (Nat.le_of_ble_eq_true rfl) (And.intro ⟨0, (Int32.ofInt 1), rfl, by decide, i0⟩ ?_)
              intro v71 s73 h72
              have h72 : Iv s73 ∧ Kp s0 s73 ∧ (v71.toInt = -1) := h72
              have i74 := h72.1
              have k75 : Kr s0 s73 := Kx.tr Kx.rf (((h72.2.1).pc).cr)
              have q76 := h72.2.2
              show Iv s73 ∧ Kr s0 s73 ∧ (True)
              exact ⟨i74, k75, (trivial)⟩
    ·
      intro L s91 hL
      obtain ⟨w77, w78, w79, w80, rfl, b81, b82, b83, b84, b85, b86, b87, b88, b89, b90, i92, k93⟩ := hL
      refine And.intro (fun c94 => ?_) (fun c94 => ?_)
      · have c94 : a2.toInt ≤ w80.toInt := c94
        refine And.intro (fun c95 => ?_) (fun c95 => ?_)
        · have c95 : ¬ a4.toInt = 0 := c95
          refine And.intro (fun c96 => ?_) (fun c96 => ?_)
          · have c96 : ¬ w77.toInt = 0 := c96
            refine And.intro (Nat.le_of_ble_eq_true rfl) (And.intro ⟨0, w79, rfl, by decide, i92⟩ ?_)
            intro v97 s99 h98
            have h98 : Iv s99 ∧ Kp s91 s99 ∧ (v97 = w79 ∧ v97.toInt = w79.toInt) := h98
            have i100 := h98.1
            have k101 : Kr s0 s99 := Kx.tr k93 (((h98.2.1).pc).cr)
            have q102 := h98.2.2
            show Iv s99 ∧ Kr s0 s99 ∧ (True)
            exact ⟨i100, k101, (trivial)⟩
          · have c96 : ¬ (¬ w77.toInt = 0) := c96
            refine And.intro (Nat.le_of_ble_eq_true rfl) (And.intro ⟨0, (Int32.ofInt 5), rfl, by decide, i92⟩ ?_)
            intro v103 s105 h104
            have h104 : Iv s105 ∧ Kp s91 s105 ∧ (v103.toInt = -1) := h104
            have i106 := h104.1
            have k107 : Kr s0 s105 := Kx.tr k93 (((h104.2.1).pc).cr)
            have q108 := h104.2.2
            show Iv s105 ∧ Kr s0 s105 ∧ (True)
            exact ⟨i106, k107, (trivial)⟩
        · have c95 : ¬ (¬ a4.toInt = 0) := c95
          refine And.intro (Nat.le_of_ble_eq_true rfl) (And.intro ⟨0, w77, rfl, by decide, i92⟩ ?_)
          intro v109 s111 h110
          have h110 : Iv s111 ∧ Kp s91 s111 ∧ (v109 = w77 ∧ v109.toInt = w77.toInt) := h110
          have i112 := h110.1
          have k113 : Kr s0 s111 := Kx.tr k93 (((h110.2.1).pc).cr)
          have q114 := h110.2.2
          show Iv s111 ∧ Kr s0 s111 ∧ (True)
          exact ⟨i112, k113, (trivial)⟩
      · have c94 : ¬ (a2.toInt ≤ w80.toInt) := c94
        intro v115 e116
        have b117 := vg_add e116 (by omega) (by omega)
        refine And.intro (Nat.le_of_ble_eq_true rfl) (And.intro ⟨31, 22, 4, v115, rfl, by decide, by decide, by decide, i92⟩ ?_)
        intro s119 h118
        have h118 : Iv s119 ∧ Kr s91 s119 ∧ (0 ≤ (s119.1 31 4).toInt ∧ 0 ≤ (s119.1 31 5).toInt ∧ (s119.1 31 4).toInt + (s119.1 31 5).toInt ≤ 1000) := h118
        have i120 := h118.1
        have k121 : Kr s0 s119 := Kx.tr k93 (h118.2.1)
        have q122 := h118.2.2
        intro v123 e124
        have g125 : s119.1 31 3 = v123 := by rw [e124]
        refine And.intro (fun c126 => ?_) (fun c126 => ?_)
        · have c126 : v123.toInt = 0 := c126
          intro v127 e128
          have b129 := vg_add e128 (by omega) (by omega)
          exact ⟨rfl, ⟨w77, w78, w79, v127, rfl, (by omega), (by omega), (by omega), (by omega), (by omega), (by omega), (by omega), (by omega), (by omega), (by omega), i120, k121⟩, (by show (0 + (60 - v127.toInt) * 1000000000000).toNat < (0 + (60 - w80.toInt) * 1000000000000).toNat; omega)⟩
        · have c126 : ¬ (v123.toInt = 0) := c126
          intro v130 e131
          have g132 : s119.1 31 5 = v130 := by rw [e131]
          have b133 : v130.toInt = (s119.1 31 5).toInt := congrArg Int32.toInt e131
          refine And.intro (fun c134 => ?_) (fun c134 => ?_)
          · have c134 : a3.toInt < v130.toInt := c134
            intro v135 e136
            have b137 := vg_add e136 (by omega) (by omega)
            exact ⟨rfl, ⟨w77, w78, w79, v135, rfl, (by omega), (by omega), (by omega), (by omega), (by omega), (by omega), (by omega), (by omega), (by omega), (by omega), i120, k121⟩, (by show (0 + (60 - v135.toInt) * 1000000000000).toNat < (0 + (60 - w80.toInt) * 1000000000000).toNat; omega)⟩
          · have c134 : ¬ (a3.toInt < v130.toInt) := c134
            intro v138 e139
            intro v140 e141
            have w142 : v130 = v140 := by rw [e141, g132]
            subst w142
            refine And.intro (fun c143 => ?_) (fun c143 => ?_)
            · have c143 : w78.toInt ≤ v130.toInt := c143
              intro v144 e145
              have b146 := vg_add e145 (by omega) (by omega)
              exact ⟨rfl, ⟨v138, w78, w79, v144, rfl, (by omega), (by omega), (by omega), (by omega), (by omega), (by omega), (by omega), (by omega), (by omega), (by omega), i120, k121⟩, (by show (0 + (60 - v144.toInt) * 1000000000000).toNat < (0 + (60 - w80.toInt) * 1000000000000).toNat; omega)⟩
            · have c143 : ¬ (w78.toInt ≤ v130.toInt) := c143
              intro v147 e148
              have w149 : v130 = v147 := by rw [e148, g132]
              subst w149
              intro v150 e151
              have b152 := vg_add e151 (by omega) (by omega)
              intro v153 e154
              have b155 := vg_add e154 (by omega) (by omega)
              exact ⟨rfl, ⟨v138, v130, v150, v153, rfl, (by omega), (by omega), (by omega), (by omega), (by omega), (by omega), (by omega), (by omega), (by omega), (by omega), i120, k121⟩, (by show (0 + (60 - v153.toInt) * 1000000000000).toNat < (0 + (60 - w80.toInt) * 1000000000000).toNat; omega)⟩
def o_X10_half : List vg_I := [(0, .iload_n 1, 1, 0, 0, 0, 0), (1, .invokestatic 193, 3, 0, 1, 1, 601), (4, .ifCond .eq 12, 3, 0, 0, 0, 0), (7, .iload_n 2, 1, 0, 0, 0, 0), (8, .iconst 0, 1, 0, 0, 0, 0), (9, .iconst 3, 1, 0, 0, 0, 0), (10, .invokestatic 82, 3, 1, 1, 3, 478), (13, .ifCond .ne 9, 3, 0, 0, 0, 0), (16, .aload_n 0, 1, 0, 0, 0, 0), (17, .iconst 1, 1, 0, 0, 0, 0), (18, .invokevirtual 90, 3, 2, 10, 1, 484), (21, .ireturn, 1, 0, 0, 0, 0), (22, .iload_n 2, 1, 0, 0, 0, 0), (23, .tableswitch 72 0 2 #[25, 38, 59], 25, 0, 0, 0, 0), (48, .aload_n 0, 1, 0, 0, 0, 0), (49, .aload_n 0, 1, 0, 0, 0, 0), (50, .getfield 40, 3, 434, 10, 7, 0), (53, .iload_n 1, 1, 0, 0, 0, 0), (54, .invokevirtual 190, 3, 3, 8, 1, 583), (57, .invokevirtual 113, 3, 4, 10, 1, 520), (60, .ireturn, 1, 0, 0, 0, 0), (61, .aload_n 0, 1, 0, 0, 0, 0), (62, .aload_n 0, 1, 0, 0, 0, 0), (63, .getfield 40, 3, 434, 10, 7, 0), (66, .iload_n 1, 1, 0, 0, 0, 0), (67, .invokevirtual 332, 3, 5, 8, 1, 914), (70, .ifCond .eq 7, 3, 0, 0, 0, 0), (73, .iconst 1, 1, 0, 0, 0, 0), (74, .goto 4, 3, 0, 0, 0, 0), (77, .iconst 0, 1, 0, 0, 0, 0), (78, .invokevirtual 113, 3, 4, 10, 1, 520), (81, .ireturn, 1, 0, 0, 0, 0), (82, .aload_n 0, 1, 0, 0, 0, 0), (83, .aload_n 0, 1, 0, 0, 0, 0), (84, .getfield 40, 3, 434, 10, 7, 0), (87, .iload_n 1, 1, 0, 0, 0, 0), (88, .invokevirtual 335, 3, 6, 8, 1, 918), (91, .invokevirtual 113, 3, 4, 10, 1, 520), (94, .ireturn, 1, 0, 0, 0, 0), (95, .aload_n 0, 1, 0, 0, 0, 0), (96, .aload_n 0, 1, 0, 0, 0, 0), (97, .getfield 40, 3, 434, 10, 7, 0), (100, .iload_n 1, 1, 0, 0, 0, 0), (101, .invokevirtual 319, 3, 7, 8, 1, 876), (104, .invokevirtual 113, 3, 4, 10, 1, 520), (107, .ireturn, 1, 0, 0, 0, 0)]
set_option maxRecDepth 100000 in
set_option maxHeartbeats 4000000 in
theorem c_X10_half (l : Launch) (G : vg_G) (hp : vg_Hp G) : vg_Ct l G vg_sh r_X10_half := by
  refine vg_meth hp vg_sh_ok r_X10_half k_X10_half rfl (fun h => by cases h) o_X10_half [r_X8_isKind, r_X10_within, r_X10_refuse, r_X8_sumOf, r_X10_answer, r_X8_isHalfBand, r_X8_shiftOf, r_X8_plainOf] false (by decide +kernel) (by decide +kernel) ⟨_, _, rfl, rfl⟩ (List.forall_mem_cons.mpr ⟨⟨c_X8_isKind l G hp, Nat.le_of_ble_eq_true rfl, Nat.le_of_ble_eq_true rfl⟩, List.forall_mem_cons.mpr ⟨⟨c_X10_within l G hp, Nat.le_of_ble_eq_true rfl, Nat.le_of_ble_eq_true rfl⟩, List.forall_mem_cons.mpr ⟨⟨c_X10_refuse l G hp, Nat.le_of_ble_eq_true rfl, Nat.le_of_ble_eq_true rfl⟩, List.forall_mem_cons.mpr ⟨⟨c_X8_sumOf l G hp, Nat.le_of_ble_eq_true rfl, Nat.le_of_ble_eq_true rfl⟩, List.forall_mem_cons.mpr ⟨⟨c_X10_answer l G hp, Nat.le_of_ble_eq_true rfl, Nat.le_of_ble_eq_true rfl⟩, List.forall_mem_cons.mpr ⟨⟨c_X8_isHalfBand l G hp, Nat.le_of_ble_eq_true rfl, Nat.le_of_ble_eq_true rfl⟩, List.forall_mem_cons.mpr ⟨⟨c_X8_shiftOf l G hp, Nat.le_of_ble_eq_true rfl, Nat.le_of_ble_eq_true rfl⟩, List.forall_mem_cons.mpr ⟨⟨c_X8_plainOf l G hp, Nat.le_of_ble_eq_true rfl, Nat.le_of_ble_eq_true rfl⟩, fun _ h => absurd h List.not_mem_nil⟩⟩⟩⟩⟩⟩⟩⟩) (fun h => by cases h) 600 ?_
  intro as s0 hpre
  obtain ⟨r, a1, a2, rfl, hr, i0⟩ := hpre
  simp only [List.mem_cons, List.not_mem_nil, or_false] at hr
  rcases hr with rfl
  ·
    have z0 : (Int32.ofInt 0).toInt = 0 := by decide
    have z1 : (Int32.ofInt 1).toInt = 1 := by decide
    have z3 : (Int32.ofInt 3).toInt = 3 := by decide
    refine ⟨Nat.le_of_ble_eq_true rfl, [], ?_, fun _ h => absurd h List.not_mem_nil⟩
    ·
      refine And.intro (Nat.le_of_ble_eq_true rfl) (And.intro ⟨a1, rfl, trivial⟩ ?_)
      intro v1 s3 h2
      have h2 : s3 = s0 ∧ ((v1.toInt = 1 ∧ 0 ≤ a1.toInt ∧ a1.toInt ≤ 3) ∨ (v1.toInt = 0 ∧ (a1.toInt < 0 ∨ 3 < a1.toInt))) := h2
      have q6 := h2.1.symm
      subst q6
      have q7 := h2.2
      refine And.intro (fun c8 => ?_) (fun c8 => ?_)
      · have c8 : v1.toInt = 0 := c8
        refine And.intro (Nat.le_of_ble_eq_true rfl) (And.intro ⟨0, (Int32.ofInt 1), rfl, by decide, i0⟩ ?_)
        intro v9 s11 h10
        have h10 : Iv s11 ∧ Kp s0 s11 ∧ (v9.toInt = -1) := h10
        have i12 := h10.1
        have k13 : Kp s0 s11 := Kx.tr Kx.rf (h10.2.1)
        have q14 := h10.2.2
        show Iv s11 ∧ Kp s0 s11 ∧ (((0 ≤ a1.toInt ∧ a1.toInt ≤ 3 ∧ 0 ≤ a2.toInt ∧ a2.toInt ≤ 3) ∧ ((a2.toInt = 0 ∧ ((a1.toInt = 3 → v9 = vg_rs (s0.1 17) 7) ∧ (a1.toInt = 0 → v9.toInt = 4) ∧ (a1.toInt = 1 → v9.toInt = 32) ∧ (a1.toInt = 2 → v9.toInt = 512))) ∨ (a2.toInt = 1 ∧ ((a1.toInt = 3 → (v9.toInt = 1 ∧ (s0.1 17 5).toInt = 0) ∨ (v9.toInt = 0 ∧ ¬ (s0.1 17 5).toInt = 0)) ∧ ((a1.toInt = 0 ∨ a1.toInt = 1 ∨ a1.toInt = 2) → v9.toInt = 1))) ∨ (a2.toInt = 2 ∧ ((a1.toInt = 0 ∧ v9.toInt = 2) ∨ (a1.toInt = 1 ∧ v9.toInt = 5) ∨ (a1.toInt = 2 ∧ v9.toInt = 9) ∨ (¬ a1.toInt = 0 ∧ ¬ a1.toInt = 1 ∧ ¬ a1.toInt = 2 ∧ v9.toInt = (s0.1 16 1).toInt))) ∨ (a2.toInt = 3 ∧ (v9 = vg_cnt (vg_rw s0 (vg_rp a1)) (vg_tn a1))))) ∨ (¬ (0 ≤ a1.toInt ∧ a1.toInt ≤ 3 ∧ 0 ≤ a2.toInt ∧ a2.toInt ≤ 3) ∧ v9.toInt = -1))
        exact ⟨i12, k13, (by first | exact Or.inr ⟨by omega, by omega⟩ | exact Or.inl ⟨by omega, Or.inl ⟨by omega, by rw [q14.1]; exact y9⟩⟩ | exact Or.inl ⟨by omega, Or.inr (Or.inl ⟨by omega, by omega⟩)⟩ | exact Or.inl ⟨by omega, Or.inr (Or.inr (Or.inl ⟨by omega, by omega⟩))⟩ | exact Or.inl ⟨by omega, Or.inr (Or.inr (Or.inr ⟨by omega, by rw [q14.1]; exact y9⟩))⟩)⟩
      · have c8 : ¬ (v1.toInt = 0) := c8
        refine And.intro (Nat.le_of_ble_eq_true rfl) (And.intro ⟨a2, (Int32.ofInt 0), (Int32.ofInt 3), rfl, trivial⟩ ?_)
        intro v15 s17 h16
        have h16 : s17 = s0 ∧ ((v15.toInt = 1 ∧ (Int32.ofInt 0).toInt ≤ a2.toInt ∧ a2.toInt ≤ (Int32.ofInt 3).toInt) ∨ (v15.toInt = 0 ∧ (a2.toInt < (Int32.ofInt 0).toInt ∨ (Int32.ofInt 3).toInt < a2.toInt))) := h16
        have q20 := h16.1.symm
        subst q20
        have q21 := h16.2
        refine And.intro (fun c22 => ?_) (fun c22 => ?_)
        · have c22 : ¬ v15.toInt = 0 := c22
          refine And.intro (fun c23 => ?_) ?_
          · have c23 : a2.toInt < (0) ∨ (2) < a2.toInt := c23
            refine And.intro (Nat.le_of_ble_eq_true rfl) (And.intro ⟨16, a1, rfl, by decide, i0⟩ ?_)
            intro v24 s26 h25
            have h25 : s26 = s0 ∧ (v24 = vg_cnt (vg_rw s0 (vg_rp a1)) (vg_tn a1)) := h25
            have q29 := h25.1.symm
            subst q29
            have q30 := h25.2
            have y9 := q30
            refine And.intro (Nat.le_of_ble_eq_true rfl) (And.intro ⟨0, v24, rfl, by decide, i0⟩ ?_)
            intro v31 s33 h32
            have h32 : Iv s33 ∧ Kp s0 s33 ∧ (v31 = v24 ∧ v31.toInt = v24.toInt) := h32
            have i34 := h32.1
            have k35 : Kp s0 s33 := Kx.tr Kx.rf (h32.2.1)
            have q36 := h32.2.2
            show Iv s33 ∧ Kp s0 s33 ∧ (((0 ≤ a1.toInt ∧ a1.toInt ≤ 3 ∧ 0 ≤ a2.toInt ∧ a2.toInt ≤ 3) ∧ ((a2.toInt = 0 ∧ ((a1.toInt = 3 → v31 = vg_rs (s0.1 17) 7) ∧ (a1.toInt = 0 → v31.toInt = 4) ∧ (a1.toInt = 1 → v31.toInt = 32) ∧ (a1.toInt = 2 → v31.toInt = 512))) ∨ (a2.toInt = 1 ∧ ((a1.toInt = 3 → (v31.toInt = 1 ∧ (s0.1 17 5).toInt = 0) ∨ (v31.toInt = 0 ∧ ¬ (s0.1 17 5).toInt = 0)) ∧ ((a1.toInt = 0 ∨ a1.toInt = 1 ∨ a1.toInt = 2) → v31.toInt = 1))) ∨ (a2.toInt = 2 ∧ ((a1.toInt = 0 ∧ v31.toInt = 2) ∨ (a1.toInt = 1 ∧ v31.toInt = 5) ∨ (a1.toInt = 2 ∧ v31.toInt = 9) ∨ (¬ a1.toInt = 0 ∧ ¬ a1.toInt = 1 ∧ ¬ a1.toInt = 2 ∧ v31.toInt = (s0.1 16 1).toInt))) ∨ (a2.toInt = 3 ∧ (v31 = vg_cnt (vg_rw s0 (vg_rp a1)) (vg_tn a1))))) ∨ (¬ (0 ≤ a1.toInt ∧ a1.toInt ≤ 3 ∧ 0 ≤ a2.toInt ∧ a2.toInt ≤ 3) ∧ v31.toInt = -1))
            exact ⟨i34, k35, (by first | exact Or.inr ⟨by omega, by omega⟩ | exact Or.inl ⟨by omega, Or.inl ⟨by omega, by rw [q36.1]; exact y9⟩⟩ | exact Or.inl ⟨by omega, Or.inr (Or.inl ⟨by omega, by omega⟩)⟩ | exact Or.inl ⟨by omega, Or.inr (Or.inr (Or.inl ⟨by omega, by omega⟩))⟩ | exact Or.inl ⟨by omega, Or.inr (Or.inr (Or.inr ⟨by omega, by rw [q36.1]; exact y9⟩))⟩)⟩
          refine And.intro (fun c37 => ?_) ?_
          · have c37 : a2.toInt = (0) := c37
            refine And.intro (Nat.le_of_ble_eq_true rfl) (And.intro ⟨16, a1, rfl, by decide, i0⟩ ?_)
            intro v38 s40 h39
            have h39 : s40 = s0 ∧ ((a1.toInt = 3 → v38 = vg_rs (s0.1 17) 7) ∧ (a1.toInt = 0 → v38.toInt = 4) ∧ (a1.toInt = 1 → v38.toInt = 32) ∧ (a1.toInt = 2 → v38.toInt = 512)) := h39
            have q43 := h39.1.symm
            subst q43
            have q44 := h39.2
            have y9 := q44
            refine And.intro (Nat.le_of_ble_eq_true rfl) (And.intro ⟨0, v38, rfl, by decide, i0⟩ ?_)
            intro v45 s47 h46
            have h46 : Iv s47 ∧ Kp s0 s47 ∧ (v45 = v38 ∧ v45.toInt = v38.toInt) := h46
            have i48 := h46.1
            have k49 : Kp s0 s47 := Kx.tr Kx.rf (h46.2.1)
            have q50 := h46.2.2
            show Iv s47 ∧ Kp s0 s47 ∧ (((0 ≤ a1.toInt ∧ a1.toInt ≤ 3 ∧ 0 ≤ a2.toInt ∧ a2.toInt ≤ 3) ∧ ((a2.toInt = 0 ∧ ((a1.toInt = 3 → v45 = vg_rs (s0.1 17) 7) ∧ (a1.toInt = 0 → v45.toInt = 4) ∧ (a1.toInt = 1 → v45.toInt = 32) ∧ (a1.toInt = 2 → v45.toInt = 512))) ∨ (a2.toInt = 1 ∧ ((a1.toInt = 3 → (v45.toInt = 1 ∧ (s0.1 17 5).toInt = 0) ∨ (v45.toInt = 0 ∧ ¬ (s0.1 17 5).toInt = 0)) ∧ ((a1.toInt = 0 ∨ a1.toInt = 1 ∨ a1.toInt = 2) → v45.toInt = 1))) ∨ (a2.toInt = 2 ∧ ((a1.toInt = 0 ∧ v45.toInt = 2) ∨ (a1.toInt = 1 ∧ v45.toInt = 5) ∨ (a1.toInt = 2 ∧ v45.toInt = 9) ∨ (¬ a1.toInt = 0 ∧ ¬ a1.toInt = 1 ∧ ¬ a1.toInt = 2 ∧ v45.toInt = (s0.1 16 1).toInt))) ∨ (a2.toInt = 3 ∧ (v45 = vg_cnt (vg_rw s0 (vg_rp a1)) (vg_tn a1))))) ∨ (¬ (0 ≤ a1.toInt ∧ a1.toInt ≤ 3 ∧ 0 ≤ a2.toInt ∧ a2.toInt ≤ 3) ∧ v45.toInt = -1))
            exact ⟨i48, k49, (by first | exact Or.inr ⟨by omega, by omega⟩ | exact Or.inl ⟨by omega, Or.inl ⟨by omega, by rw [q50.1]; exact y9⟩⟩ | exact Or.inl ⟨by omega, Or.inr (Or.inl ⟨by omega, by omega⟩)⟩ | exact Or.inl ⟨by omega, Or.inr (Or.inr (Or.inl ⟨by omega, by omega⟩))⟩ | exact Or.inl ⟨by omega, Or.inr (Or.inr (Or.inr ⟨by omega, by rw [q50.1]; exact y9⟩))⟩)⟩
          refine And.intro (fun c51 => ?_) ?_
          · have c51 : a2.toInt = (1) := c51
            refine And.intro (Nat.le_of_ble_eq_true rfl) (And.intro ⟨16, a1, rfl, by decide, i0⟩ ?_)
            intro v52 s54 h53
            have h53 : s54 = s0 ∧ (0 ≤ v52.toInt ∧ v52.toInt ≤ 1 ∧ (a1.toInt = 3 → (v52.toInt = 1 ∧ (s0.1 17 5).toInt = 0) ∨ (v52.toInt = 0 ∧ ¬ (s0.1 17 5).toInt = 0)) ∧ ((a1.toInt = 0 ∨ a1.toInt = 1 ∨ a1.toInt = 2) → v52.toInt = 1)) := h53
            have q57 := h53.1.symm
            subst q57
            have q58 := h53.2
            refine And.intro (fun c59 => ?_) (fun c59 => ?_)
            · have c59 : v52.toInt = 0 := c59
              refine And.intro (Nat.le_of_ble_eq_true rfl) (And.intro ⟨0, (Int32.ofInt 0), rfl, by decide, i0⟩ ?_)
              intro v60 s62 h61
              have h61 : Iv s62 ∧ Kp s0 s62 ∧ (v60 = (Int32.ofInt 0) ∧ v60.toInt = (Int32.ofInt 0).toInt) := h61
              have i63 := h61.1
              have k64 : Kp s0 s62 := Kx.tr Kx.rf (h61.2.1)
              have q65 := h61.2.2
              show Iv s62 ∧ Kp s0 s62 ∧ (((0 ≤ a1.toInt ∧ a1.toInt ≤ 3 ∧ 0 ≤ a2.toInt ∧ a2.toInt ≤ 3) ∧ ((a2.toInt = 0 ∧ ((a1.toInt = 3 → v60 = vg_rs (s0.1 17) 7) ∧ (a1.toInt = 0 → v60.toInt = 4) ∧ (a1.toInt = 1 → v60.toInt = 32) ∧ (a1.toInt = 2 → v60.toInt = 512))) ∨ (a2.toInt = 1 ∧ ((a1.toInt = 3 → (v60.toInt = 1 ∧ (s0.1 17 5).toInt = 0) ∨ (v60.toInt = 0 ∧ ¬ (s0.1 17 5).toInt = 0)) ∧ ((a1.toInt = 0 ∨ a1.toInt = 1 ∨ a1.toInt = 2) → v60.toInt = 1))) ∨ (a2.toInt = 2 ∧ ((a1.toInt = 0 ∧ v60.toInt = 2) ∨ (a1.toInt = 1 ∧ v60.toInt = 5) ∨ (a1.toInt = 2 ∧ v60.toInt = 9) ∨ (¬ a1.toInt = 0 ∧ ¬ a1.toInt = 1 ∧ ¬ a1.toInt = 2 ∧ v60.toInt = (s0.1 16 1).toInt))) ∨ (a2.toInt = 3 ∧ (v60 = vg_cnt (vg_rw s0 (vg_rp a1)) (vg_tn a1))))) ∨ (¬ (0 ≤ a1.toInt ∧ a1.toInt ≤ 3 ∧ 0 ≤ a2.toInt ∧ a2.toInt ≤ 3) ∧ v60.toInt = -1))
              exact ⟨i63, k64, (by first | exact Or.inr ⟨by omega, by omega⟩ | exact Or.inl ⟨by omega, Or.inl ⟨by omega, by rw [q65.1]; exact y9⟩⟩ | exact Or.inl ⟨by omega, Or.inr (Or.inl ⟨by omega, by omega⟩)⟩ | exact Or.inl ⟨by omega, Or.inr (Or.inr (Or.inl ⟨by omega, by omega⟩))⟩ | exact Or.inl ⟨by omega, Or.inr (Or.inr (Or.inr ⟨by omega, by rw [q65.1]; exact y9⟩))⟩)⟩
            · have c59 : ¬ (v52.toInt = 0) := c59
              refine And.intro (Nat.le_of_ble_eq_true rfl) (And.intro ⟨0, (Int32.ofInt 1), rfl, by decide, i0⟩ ?_)
              intro v66 s68 h67
              have h67 : Iv s68 ∧ Kp s0 s68 ∧ (v66 = (Int32.ofInt 1) ∧ v66.toInt = (Int32.ofInt 1).toInt) := h67
              have i69 := h67.1
              have k70 : Kp s0 s68 := Kx.tr Kx.rf (h67.2.1)
              have q71 := h67.2.2
              show Iv s68 ∧ Kp s0 s68 ∧ (((0 ≤ a1.toInt ∧ a1.toInt ≤ 3 ∧ 0 ≤ a2.toInt ∧ a2.toInt ≤ 3) ∧ ((a2.toInt = 0 ∧ ((a1.toInt = 3 → v66 = vg_rs (s0.1 17) 7) ∧ (a1.toInt = 0 → v66.toInt = 4) ∧ (a1.toInt = 1 → v66.toInt = 32) ∧ (a1.toInt = 2 → v66.toInt = 512))) ∨ (a2.toInt = 1 ∧ ((a1.toInt = 3 → (v66.toInt = 1 ∧ (s0.1 17 5).toInt = 0) ∨ (v66.toInt = 0 ∧ ¬ (s0.1 17 5).toInt = 0)) ∧ ((a1.toInt = 0 ∨ a1.toInt = 1 ∨ a1.toInt = 2) → v66.toInt = 1))) ∨ (a2.toInt = 2 ∧ ((a1.toInt = 0 ∧ v66.toInt = 2) ∨ (a1.toInt = 1 ∧ v66.toInt = 5) ∨ (a1.toInt = 2 ∧ v66.toInt = 9) ∨ (¬ a1.toInt = 0 ∧ ¬ a1.toInt = 1 ∧ ¬ a1.toInt = 2 ∧ v66.toInt = (s0.1 16 1).toInt))) ∨ (a2.toInt = 3 ∧ (v66 = vg_cnt (vg_rw s0 (vg_rp a1)) (vg_tn a1))))) ∨ (¬ (0 ≤ a1.toInt ∧ a1.toInt ≤ 3 ∧ 0 ≤ a2.toInt ∧ a2.toInt ≤ 3) ∧ v66.toInt = -1))
              exact ⟨i69, k70, (by first | exact Or.inr ⟨by omega, by omega⟩ | exact Or.inl ⟨by omega, Or.inl ⟨by omega, by rw [q71.1]; exact y9⟩⟩ | exact Or.inl ⟨by omega, Or.inr (Or.inl ⟨by omega, by omega⟩)⟩ | exact Or.inl ⟨by omega, Or.inr (Or.inr (Or.inl ⟨by omega, by omega⟩))⟩ | exact Or.inl ⟨by omega, Or.inr (Or.inr (Or.inr ⟨by omega, by rw [q71.1]; exact y9⟩))⟩)⟩
          refine And.intro (fun c72 => ?_) ?_
          · have c72 : a2.toInt = (2) := c72
            refine And.intro (Nat.le_of_ble_eq_true rfl) (And.intro ⟨16, a1, rfl, by decide, i0⟩ ?_)
            intro v73 s75 h74
            have h74 : s75 = s0 ∧ ((a1.toInt = 0 ∧ v73.toInt = 2) ∨ (a1.toInt = 1 ∧ v73.toInt = 5) ∨ (a1.toInt = 2 ∧ v73.toInt = 9) ∨ (¬ a1.toInt = 0 ∧ ¬ a1.toInt = 1 ∧ ¬ a1.toInt = 2 ∧ v73.toInt = (s0.1 16 1).toInt)) := h74
            have q78 := h74.1.symm
            subst q78
            have q79 := h74.2
            refine And.intro (Nat.le_of_ble_eq_true rfl) (And.intro ⟨0, v73, rfl, by decide, i0⟩ ?_)
            intro v80 s82 h81
            have h81 : Iv s82 ∧ Kp s0 s82 ∧ (v80 = v73 ∧ v80.toInt = v73.toInt) := h81
            have i83 := h81.1
            have k84 : Kp s0 s82 := Kx.tr Kx.rf (h81.2.1)
            have q85 := h81.2.2
            show Iv s82 ∧ Kp s0 s82 ∧ (((0 ≤ a1.toInt ∧ a1.toInt ≤ 3 ∧ 0 ≤ a2.toInt ∧ a2.toInt ≤ 3) ∧ ((a2.toInt = 0 ∧ ((a1.toInt = 3 → v80 = vg_rs (s0.1 17) 7) ∧ (a1.toInt = 0 → v80.toInt = 4) ∧ (a1.toInt = 1 → v80.toInt = 32) ∧ (a1.toInt = 2 → v80.toInt = 512))) ∨ (a2.toInt = 1 ∧ ((a1.toInt = 3 → (v80.toInt = 1 ∧ (s0.1 17 5).toInt = 0) ∨ (v80.toInt = 0 ∧ ¬ (s0.1 17 5).toInt = 0)) ∧ ((a1.toInt = 0 ∨ a1.toInt = 1 ∨ a1.toInt = 2) → v80.toInt = 1))) ∨ (a2.toInt = 2 ∧ ((a1.toInt = 0 ∧ v80.toInt = 2) ∨ (a1.toInt = 1 ∧ v80.toInt = 5) ∨ (a1.toInt = 2 ∧ v80.toInt = 9) ∨ (¬ a1.toInt = 0 ∧ ¬ a1.toInt = 1 ∧ ¬ a1.toInt = 2 ∧ v80.toInt = (s0.1 16 1).toInt))) ∨ (a2.toInt = 3 ∧ (v80 = vg_cnt (vg_rw s0 (vg_rp a1)) (vg_tn a1))))) ∨ (¬ (0 ≤ a1.toInt ∧ a1.toInt ≤ 3 ∧ 0 ≤ a2.toInt ∧ a2.toInt ≤ 3) ∧ v80.toInt = -1))
            exact ⟨i83, k84, (by first | exact Or.inr ⟨by omega, by omega⟩ | exact Or.inl ⟨by omega, Or.inl ⟨by omega, by rw [q85.1]; exact y9⟩⟩ | exact Or.inl ⟨by omega, Or.inr (Or.inl ⟨by omega, by omega⟩)⟩ | exact Or.inl ⟨by omega, Or.inr (Or.inr (Or.inl ⟨by omega, by omega⟩))⟩ | exact Or.inl ⟨by omega, Or.inr (Or.inr (Or.inr ⟨by omega, by rw [q85.1]; exact y9⟩))⟩)⟩
          exact trivial
        · have c22 : ¬ (¬ v15.toInt = 0) := c22
          refine And.intro (Nat.le_of_ble_eq_true rfl) (And.intro ⟨0, (Int32.ofInt 1), rfl, by decide, i0⟩ ?_)
          intro v86 s88 h87
          have h87 : Iv s88 ∧ Kp s0 s88 ∧ (v86.toInt = -1) := h87
          have i89 := h87.1
          have k90 : Kp s0 s88 := Kx.tr Kx.rf (h87.2.1)
          have q91 := h87.2.2
          show Iv s88 ∧ Kp s0 s88 ∧ (((0 ≤ a1.toInt ∧ a1.toInt ≤ 3 ∧ 0 ≤ a2.toInt ∧ a2.toInt ≤ 3) ∧ ((a2.toInt = 0 ∧ ((a1.toInt = 3 → v86 = vg_rs (s0.1 17) 7) ∧ (a1.toInt = 0 → v86.toInt = 4) ∧ (a1.toInt = 1 → v86.toInt = 32) ∧ (a1.toInt = 2 → v86.toInt = 512))) ∨ (a2.toInt = 1 ∧ ((a1.toInt = 3 → (v86.toInt = 1 ∧ (s0.1 17 5).toInt = 0) ∨ (v86.toInt = 0 ∧ ¬ (s0.1 17 5).toInt = 0)) ∧ ((a1.toInt = 0 ∨ a1.toInt = 1 ∨ a1.toInt = 2) → v86.toInt = 1))) ∨ (a2.toInt = 2 ∧ ((a1.toInt = 0 ∧ v86.toInt = 2) ∨ (a1.toInt = 1 ∧ v86.toInt = 5) ∨ (a1.toInt = 2 ∧ v86.toInt = 9) ∨ (¬ a1.toInt = 0 ∧ ¬ a1.toInt = 1 ∧ ¬ a1.toInt = 2 ∧ v86.toInt = (s0.1 16 1).toInt))) ∨ (a2.toInt = 3 ∧ (v86 = vg_cnt (vg_rw s0 (vg_rp a1)) (vg_tn a1))))) ∨ (¬ (0 ≤ a1.toInt ∧ a1.toInt ≤ 3 ∧ 0 ≤ a2.toInt ∧ a2.toInt ≤ 3) ∧ v86.toInt = -1))
          exact ⟨i89, k90, (by first | exact Or.inr ⟨by omega, by omega⟩ | exact Or.inl ⟨by omega, Or.inl ⟨by omega, by rw [q91.1]; exact y9⟩⟩ | exact Or.inl ⟨by omega, Or.inr (Or.inl ⟨by omega, by omega⟩)⟩ | exact Or.inl ⟨by omega, Or.inr (Or.inr (Or.inl ⟨by omega, by omega⟩))⟩ | exact Or.inl ⟨by omega, Or.inr (Or.inr (Or.inr ⟨by omega, by rw [q91.1]; exact y9⟩))⟩)⟩
def o_X10_need : List vg_I := [(0, .iload_n 1, 1, 0, 0, 0, 0), (1, .iconst 0, 1, 0, 0, 0, 0), (2, .ldc_w 325, 3, 892, 0, 0, 100000), (5, .invokestatic 82, 3, 0, 1, 3, 478), (8, .ifCond .ne 9, 3, 0, 0, 0, 0), (11, .aload_n 0, 1, 0, 0, 0, 0), (12, .iconst 1, 1, 0, 0, 0, 0), (13, .invokevirtual 90, 3, 1, 10, 1, 484), (16, .ireturn, 1, 0, 0, 0, 0), (17, .aload_n 0, 1, 0, 0, 0, 0), (18, .getfield 33, 3, 433, 10, 6, 0), (21, .iload_n 1, 1, 0, 0, 0, 0), (22, .invokevirtual 180, 3, 2, 1, 1, 568), (25, .istore_n 2, 1, 0, 0, 0, 0), (26, .iload_n 2, 1, 0, 0, 0, 0), (27, .iconst (-1), 1, 0, 0, 0, 0), (28, .if_icmp .ne 11, 3, 0, 0, 0, 0), (31, .aload_n 0, 1, 0, 0, 0, 0), (32, .iconst 5, 1, 0, 0, 0, 0), (33, .invokevirtual 90, 3, 1, 10, 1, 484), (36, .goto 8, 3, 0, 0, 0, 0), (39, .aload_n 0, 1, 0, 0, 0, 0), (40, .iload_n 2, 1, 0, 0, 0, 0), (41, .invokevirtual 113, 3, 3, 10, 1, 520), (44, .ireturn, 1, 0, 0, 0, 0)]
set_option maxRecDepth 100000 in
set_option maxHeartbeats 4000000 in
theorem c_X10_need (l : Launch) (G : vg_G) (hp : vg_Hp G) : vg_Ct l G vg_sh r_X10_need := by
  refine vg_meth hp vg_sh_ok r_X10_need k_X10_need rfl (fun h => by cases h) o_X10_need [r_X10_within, r_X10_refuse, r_X1_leastWidth, r_X10_answer] false (by decide +kernel) (by decide +kernel) ⟨_, _, rfl, rfl⟩ (List.forall_mem_cons.mpr ⟨⟨c_X10_within l G hp, Nat.le_of_ble_eq_true rfl, Nat.le_of_ble_eq_true rfl⟩, List.forall_mem_cons.mpr ⟨⟨c_X10_refuse l G hp, Nat.le_of_ble_eq_true rfl, Nat.le_of_ble_eq_true rfl⟩, List.forall_mem_cons.mpr ⟨⟨c_X1_leastWidth l G hp, Nat.le_of_ble_eq_true rfl, Nat.le_of_ble_eq_true rfl⟩, List.forall_mem_cons.mpr ⟨⟨c_X10_answer l G hp, Nat.le_of_ble_eq_true rfl, Nat.le_of_ble_eq_true rfl⟩, fun _ h => absurd h List.not_mem_nil⟩⟩⟩⟩) (fun h => by cases h) 600 ?_
  intro as s0 hpre
  obtain ⟨r, a1, rfl, hr, i0⟩ := hpre
  simp only [List.mem_cons, List.not_mem_nil, or_false] at hr
  rcases hr with rfl
  ·
    have zm1 : (Int32.ofInt (-1)).toInt = -1 := by decide
    have z0 : (Int32.ofInt 0).toInt = 0 := by decide
    have z1 : (Int32.ofInt 1).toInt = 1 := by decide
    have z5 : (Int32.ofInt 5).toInt = 5 := by decide
    have z100000 : (Int32.ofInt 100000).toInt = 100000 := by decide
    refine ⟨Nat.le_of_ble_eq_true rfl, [], ?_, fun _ h => absurd h List.not_mem_nil⟩
    ·
      refine And.intro (Nat.le_of_ble_eq_true rfl) (And.intro ⟨a1, (Int32.ofInt 0), (Int32.ofInt 100000), rfl, trivial⟩ ?_)
      intro v1 s3 h2
      have h2 : s3 = s0 ∧ ((v1.toInt = 1 ∧ (Int32.ofInt 0).toInt ≤ a1.toInt ∧ a1.toInt ≤ (Int32.ofInt 100000).toInt) ∨ (v1.toInt = 0 ∧ (a1.toInt < (Int32.ofInt 0).toInt ∨ (Int32.ofInt 100000).toInt < a1.toInt))) := h2
      have q6 := h2.1.symm
      subst q6
      have q7 := h2.2
      refine And.intro (fun c8 => ?_) (fun c8 => ?_)
      · have c8 : ¬ v1.toInt = 0 := c8
        refine And.intro (Nat.le_of_ble_eq_true rfl) (And.intro ⟨12, a1, rfl, by decide, i0⟩ ?_)
        intro v9 s11 h10
        have h10 : s11 = s0 ∧ (vg_isneed (vg_mp (s0.1 12 1).toInt64 a1.toInt64 (s0.1 12 0).toNatClampNeg) v9) := h10
        have q14 := h10.1.symm
        subst q14
        have q15 := h10.2
        have y1 := q15
        refine And.intro (fun c16 => ?_) (fun c16 => ?_)
        · have c16 : ¬ v9.toInt = (Int32.ofInt (-1)).toInt := c16
          refine And.intro (Nat.le_of_ble_eq_true rfl) (And.intro ⟨0, v9, rfl, by decide, i0⟩ ?_)
          intro v17 s19 h18
          have h18 : Iv s19 ∧ Kp s0 s19 ∧ (v17 = v9 ∧ v17.toInt = v9.toInt) := h18
          have i20 := h18.1
          have k21 : Kp s0 s19 := Kx.tr Kx.rf (h18.2.1)
          have q22 := h18.2.2
          show Iv s19 ∧ Kp s0 s19 ∧ (((0 ≤ a1.toInt ∧ a1.toInt ≤ 100000) ∧ vg_isneed (vg_mp (s0.1 12 1).toInt64 a1.toInt64 (s0.1 12 0).toNatClampNeg) v17) ∨ (¬ (0 ≤ a1.toInt ∧ a1.toInt ≤ 100000) ∧ v17.toInt = -1))
          exact ⟨i20, k21, (by first | exact Or.inl ⟨by omega, by (rw [q22.1]; exact y1)⟩ | exact Or.inl ⟨by omega, vg_isneedm y1 (by omega) q22⟩ | exact Or.inr ⟨by omega, by omega⟩)⟩
        · have c16 : ¬ (¬ v9.toInt = (Int32.ofInt (-1)).toInt) := c16
          refine And.intro (Nat.le_of_ble_eq_true rfl) (And.intro ⟨0, (Int32.ofInt 5), rfl, by decide, i0⟩ ?_)
          intro v23 s25 h24
          have h24 : Iv s25 ∧ Kp s0 s25 ∧ (v23.toInt = -1) := h24
          have i26 := h24.1
          have k27 : Kp s0 s25 := Kx.tr Kx.rf (h24.2.1)
          have q28 := h24.2.2
          show Iv s25 ∧ Kp s0 s25 ∧ (((0 ≤ a1.toInt ∧ a1.toInt ≤ 100000) ∧ vg_isneed (vg_mp (s0.1 12 1).toInt64 a1.toInt64 (s0.1 12 0).toNatClampNeg) v23) ∨ (¬ (0 ≤ a1.toInt ∧ a1.toInt ≤ 100000) ∧ v23.toInt = -1))
          exact ⟨i26, k27, (by first | exact Or.inl ⟨by omega, by (rw [q28.1]; exact y1)⟩ | exact Or.inl ⟨by omega, vg_isneedm y1 (by omega) q28⟩ | exact Or.inr ⟨by omega, by omega⟩)⟩
      · have c8 : ¬ (¬ v1.toInt = 0) := c8
        refine And.intro (Nat.le_of_ble_eq_true rfl) (And.intro ⟨0, (Int32.ofInt 1), rfl, by decide, i0⟩ ?_)
        intro v29 s31 h30
        have h30 : Iv s31 ∧ Kp s0 s31 ∧ (v29.toInt = -1) := h30
        have i32 := h30.1
        have k33 : Kp s0 s31 := Kx.tr Kx.rf (h30.2.1)
        have q34 := h30.2.2
        show Iv s31 ∧ Kp s0 s31 ∧ (((0 ≤ a1.toInt ∧ a1.toInt ≤ 100000) ∧ vg_isneed (vg_mp (s0.1 12 1).toInt64 a1.toInt64 (s0.1 12 0).toNatClampNeg) v29) ∨ (¬ (0 ≤ a1.toInt ∧ a1.toInt ≤ 100000) ∧ v29.toInt = -1))
        exact ⟨i32, k33, (by first | exact Or.inl ⟨by omega, by (rw [q34.1]; exact y1)⟩ | exact Or.inl ⟨by omega, vg_isneedm y1 (by omega) q34⟩ | exact Or.inr ⟨by omega, by omega⟩)⟩
def o_X10_asked : List vg_I := [(0, .iload_n 1, 1, 0, 0, 0, 0), (1, .ifCond .ge 9, 3, 0, 0, 0, 0), (4, .aload_n 0, 1, 0, 0, 0, 0), (5, .iconst 1, 1, 0, 0, 0, 0), (6, .invokevirtual 90, 3, 0, 10, 1, 484), (9, .ireturn, 1, 0, 0, 0, 0), (10, .iload_n 1, 1, 0, 0, 0, 0), (11, .aload_n 0, 1, 0, 0, 0, 0), (12, .getfield 59, 3, 437, 10, 10, 0), (15, .getfield 234, 3, 354, 0, 1, 0), (18, .if_icmp .lt 9, 3, 0, 0, 0, 0), (21, .aload_n 0, 1, 0, 0, 0, 0), (22, .iconst 5, 1, 0, 0, 0, 0), (23, .invokevirtual 90, 3, 0, 10, 1, 484), (26, .ireturn, 1, 0, 0, 0, 0), (27, .aload_n 0, 1, 0, 0, 0, 0), (28, .aload_n 0, 1, 0, 0, 0, 0), (29, .getfield 59, 3, 437, 10, 10, 0), (32, .getfield 379, 3, 352, 0, 0, 0), (35, .iload_n 1, 1, 0, 0, 0, 0), (36, .iaload, 1, 0, 0, 0, 0), (37, .invokevirtual 113, 3, 1, 10, 1, 520), (40, .ireturn, 1, 0, 0, 0, 0)]
set_option maxRecDepth 100000 in
set_option maxHeartbeats 4000000 in
theorem c_X10_asked (l : Launch) (G : vg_G) (hp : vg_Hp G) : vg_Ct l G vg_sh r_X10_asked := by
  refine vg_meth hp vg_sh_ok r_X10_asked k_X10_asked rfl (fun h => by cases h) o_X10_asked [r_X10_refuse, r_X10_answer] false (by decide +kernel) (by decide +kernel) ⟨_, _, rfl, rfl⟩ (List.forall_mem_cons.mpr ⟨⟨c_X10_refuse l G hp, Nat.le_of_ble_eq_true rfl, Nat.le_of_ble_eq_true rfl⟩, List.forall_mem_cons.mpr ⟨⟨c_X10_answer l G hp, Nat.le_of_ble_eq_true rfl, Nat.le_of_ble_eq_true rfl⟩, fun _ h => absurd h List.not_mem_nil⟩⟩) (fun h => by cases h) 600 ?_
  intro as s0 hpre
  obtain ⟨r, a1, rfl, hr, i0⟩ := hpre
  simp only [List.mem_cons, List.not_mem_nil, or_false] at hr
  rcases hr with rfl
  ·
    have z1 : (Int32.ofInt 1).toInt = 1 := by decide
    have z5 : (Int32.ofInt 5).toInt = 5 := by decide
    refine ⟨Nat.le_of_ble_eq_true rfl, [], ?_, fun _ h => absurd h List.not_mem_nil⟩
    ·
      refine And.intro (fun c1 => ?_) (fun c1 => ?_)
      · have c1 : 0 ≤ a1.toInt := c1
        intro v2 e3
        have g4 : s0.1 20 1 = v2 := by rw [e3]
        have b5 : v2.toInt = (s0.1 20 1).toInt := congrArg Int32.toInt e3
        have b6 : (0 : Int) ≤ v2.toInt ∧ v2.toInt ≤ 12 := by rw [e3]; exact Iv_20_1 i0
        refine And.intro (fun c7 => ?_) (fun c7 => ?_)
        · have c7 : a1.toInt < v2.toInt := c7
          refine And.intro ⟨by omega, by omega⟩ ?_
          intro v8 e9
          refine And.intro (Nat.le_of_ble_eq_true rfl) (And.intro ⟨0, v8, rfl, by decide, i0⟩ ?_)
          intro v10 s12 h11
          have h11 : Iv s12 ∧ Kp s0 s12 ∧ (v10 = v8 ∧ v10.toInt = v8.toInt) := h11
          have i13 := h11.1
          have k14 : Kp s0 s12 := Kx.tr Kx.rf (h11.2.1)
          have q15 := h11.2.2
          show Iv s12 ∧ Kp s0 s12 ∧ (((0 ≤ a1.toInt ∧ a1.toInt < (s0.1 20 1).toInt) ∧ v10 = s0.1 21 a1.toNatClampNeg) ∨ (¬ (0 ≤ a1.toInt ∧ a1.toInt < (s0.1 20 1).toInt) ∧ v10.toInt = -1))
          exact ⟨i13, k14, (by first | exact Or.inl ⟨by omega, by rw [q15.1]; exact e9⟩ | exact Or.inr ⟨by omega, by omega⟩)⟩
        · have c7 : ¬ (a1.toInt < v2.toInt) := c7
          refine And.intro (Nat.le_of_ble_eq_true rfl) (And.intro ⟨0, (Int32.ofInt 5), rfl, by decide, i0⟩ ?_)
          intro v16 s18 h17
          have h17 : Iv s18 ∧ Kp s0 s18 ∧ (v16.toInt = -1) := h17
          have i19 := h17.1
          have k20 : Kp s0 s18 := Kx.tr Kx.rf (h17.2.1)
          have q21 := h17.2.2
          show Iv s18 ∧ Kp s0 s18 ∧ (((0 ≤ a1.toInt ∧ a1.toInt < (s0.1 20 1).toInt) ∧ v16 = s0.1 21 a1.toNatClampNeg) ∨ (¬ (0 ≤ a1.toInt ∧ a1.toInt < (s0.1 20 1).toInt) ∧ v16.toInt = -1))
          exact ⟨i19, k20, (by first | exact Or.inl ⟨by omega, by rw [q21.1]; exact None⟩ | exact Or.inr ⟨by omega, by omega⟩)⟩
      · have c1 : ¬ (0 ≤ a1.toInt) := c1
        refine And.intro (Nat.le_of_ble_eq_true rfl) (And.intro ⟨0, (Int32.ofInt 1), rfl, by decide, i0⟩ ?_)
        intro v22 s24 h23
        have h23 : Iv s24 ∧ Kp s0 s24 ∧ (v22.toInt = -1) := h23
        have i25 := h23.1
        have k26 : Kp s0 s24 := Kx.tr Kx.rf (h23.2.1)
        have q27 := h23.2.2
        show Iv s24 ∧ Kp s0 s24 ∧ (((0 ≤ a1.toInt ∧ a1.toInt < (s0.1 20 1).toInt) ∧ v22 = s0.1 21 a1.toNatClampNeg) ∨ (¬ (0 ≤ a1.toInt ∧ a1.toInt < (s0.1 20 1).toInt) ∧ v22.toInt = -1))
        exact ⟨i25, k26, (by first | exact Or.inl ⟨by omega, by rw [q27.1]; exact None⟩ | exact Or.inr ⟨by omega, by omega⟩)⟩
def o_X10_response : List vg_I := [(0, .iload_n 1, 1, 0, 0, 0, 0), (1, .ifCond .ge 9, 3, 0, 0, 0, 0), (4, .aload_n 0, 1, 0, 0, 0, 0), (5, .iconst 1, 1, 0, 0, 0, 0), (6, .invokevirtual 90, 3, 0, 10, 1, 484), (9, .ireturn, 1, 0, 0, 0, 0), (10, .iload_n 1, 1, 0, 0, 0, 0), (11, .aload_n 0, 1, 0, 0, 0, 0), (12, .getfield 33, 3, 433, 10, 6, 0), (15, .invokevirtual 326, 3, 1, 1, 0, 897), (18, .if_icmp .le 9, 3, 0, 0, 0, 0), (21, .aload_n 0, 1, 0, 0, 0, 0), (22, .iconst 5, 1, 0, 0, 0, 0), (23, .invokevirtual 90, 3, 0, 10, 1, 484), (26, .ireturn, 1, 0, 0, 0, 0), (27, .aload_n 0, 1, 0, 0, 0, 0), (28, .aload_n 0, 1, 0, 0, 0, 0), (29, .getfield 33, 3, 433, 10, 6, 0), (32, .iload_n 1, 1, 0, 0, 0, 0), (33, .invokevirtual 329, 3, 2, 1, 1, 901), (36, .invokevirtual 113, 3, 3, 10, 1, 520), (39, .ireturn, 1, 0, 0, 0, 0)]
set_option maxRecDepth 100000 in
set_option maxHeartbeats 4000000 in
theorem c_X10_response (l : Launch) (G : vg_G) (hp : vg_Hp G) : vg_Ct l G vg_sh r_X10_response := by
  refine vg_meth hp vg_sh_ok r_X10_response k_X10_response rfl (fun h => by cases h) o_X10_response [r_X10_refuse, r_X1_lastOfResponse, r_X1_responseAt, r_X10_answer] false (by decide +kernel) (by decide +kernel) ⟨_, _, rfl, rfl⟩ (List.forall_mem_cons.mpr ⟨⟨c_X10_refuse l G hp, Nat.le_of_ble_eq_true rfl, Nat.le_of_ble_eq_true rfl⟩, List.forall_mem_cons.mpr ⟨⟨c_X1_lastOfResponse l G hp, Nat.le_of_ble_eq_true rfl, Nat.le_of_ble_eq_true rfl⟩, List.forall_mem_cons.mpr ⟨⟨c_X1_responseAt l G hp, Nat.le_of_ble_eq_true rfl, Nat.le_of_ble_eq_true rfl⟩, List.forall_mem_cons.mpr ⟨⟨c_X10_answer l G hp, Nat.le_of_ble_eq_true rfl, Nat.le_of_ble_eq_true rfl⟩, fun _ h => absurd h List.not_mem_nil⟩⟩⟩⟩) (fun h => by cases h) 600 ?_
  intro as s0 hpre
  obtain ⟨r, a1, rfl, hr, i0⟩ := hpre
  simp only [List.mem_cons, List.not_mem_nil, or_false] at hr
  rcases hr with rfl
  ·
    have z1 : (Int32.ofInt 1).toInt = 1 := by decide
    have z5 : (Int32.ofInt 5).toInt = 5 := by decide
    refine ⟨Nat.le_of_ble_eq_true rfl, [], ?_, fun _ h => absurd h List.not_mem_nil⟩
    ·
      refine And.intro (fun c1 => ?_) (fun c1 => ?_)
      · have c1 : 0 ≤ a1.toInt := c1
        refine And.intro (Nat.le_of_ble_eq_true rfl) (And.intro ⟨12, rfl, by decide, i0⟩ ?_)
        intro v2 s4 h3
        have h3 : s4 = s0 ∧ (v2.toInt = vg_lres (s0.1 12 0) (s0.1 12 1) ∧ 0 ≤ v2.toInt ∧ v2.toInt ≤ 75) := h3
        have q7 := h3.1.symm
        subst q7
        have q8 := h3.2
        refine And.intro (fun c9 => ?_) (fun c9 => ?_)
        · have c9 : a1.toInt ≤ v2.toInt := c9
          refine And.intro (Nat.le_of_ble_eq_true rfl) (And.intro ⟨12, a1, rfl, by decide, i0⟩ ?_)
          intro v10 s12 h11
          have h11 : Iv s12 ∧ Kp s0 s12 ∧ ((0 ≤ a1.toInt ∧ a1.toInt ≤ 75) → v10 = vg_cc (s0.1 12 1).toNatClampNeg (s0.1 12 0).toNatClampNeg a1.toNatClampNeg) := h11
          have i13 := h11.1
          have k14 : Kp s0 s12 := Kx.tr Kx.rf (h11.2.1)
          have q15 := h11.2.2
          have y1 := q15 (by omega)
          refine And.intro (Nat.le_of_ble_eq_true rfl) (And.intro ⟨0, v10, rfl, by decide, i13⟩ ?_)
          intro v16 s18 h17
          have h17 : Iv s18 ∧ Kp s12 s18 ∧ (v16 = v10 ∧ v16.toInt = v10.toInt) := h17
          have i19 := h17.1
          have k20 : Kp s0 s18 := Kx.tr k14 (h17.2.1)
          have q21 := h17.2.2
          show Iv s18 ∧ Kp s0 s18 ∧ (((0 ≤ a1.toInt ∧ a1.toInt ≤ vg_lres (s0.1 12 0) (s0.1 12 1)) ∧ v16 = vg_cc (s0.1 12 1).toNatClampNeg (s0.1 12 0).toNatClampNeg a1.toNatClampNeg) ∨ (¬ (0 ≤ a1.toInt ∧ a1.toInt ≤ vg_lres (s0.1 12 0) (s0.1 12 1)) ∧ v16.toInt = -1))
          exact ⟨i19, k20, (by first | exact Or.inl ⟨by omega, by rw [q21.1]; exact y1⟩ | exact Or.inr ⟨by omega, by omega⟩)⟩
        · have c9 : ¬ (a1.toInt ≤ v2.toInt) := c9
          refine And.intro (Nat.le_of_ble_eq_true rfl) (And.intro ⟨0, (Int32.ofInt 5), rfl, by decide, i0⟩ ?_)
          intro v22 s24 h23
          have h23 : Iv s24 ∧ Kp s0 s24 ∧ (v22.toInt = -1) := h23
          have i25 := h23.1
          have k26 : Kp s0 s24 := Kx.tr Kx.rf (h23.2.1)
          have q27 := h23.2.2
          show Iv s24 ∧ Kp s0 s24 ∧ (((0 ≤ a1.toInt ∧ a1.toInt ≤ vg_lres (s0.1 12 0) (s0.1 12 1)) ∧ v22 = vg_cc (s0.1 12 1).toNatClampNeg (s0.1 12 0).toNatClampNeg a1.toNatClampNeg) ∨ (¬ (0 ≤ a1.toInt ∧ a1.toInt ≤ vg_lres (s0.1 12 0) (s0.1 12 1)) ∧ v22.toInt = -1))
          exact ⟨i25, k26, (by first | exact Or.inl ⟨by omega, by rw [q27.1]; exact y1⟩ | exact Or.inr ⟨by omega, by omega⟩)⟩
      · have c1 : ¬ (0 ≤ a1.toInt) := c1
        refine And.intro (Nat.le_of_ble_eq_true rfl) (And.intro ⟨0, (Int32.ofInt 1), rfl, by decide, i0⟩ ?_)
        intro v28 s30 h29
        have h29 : Iv s30 ∧ Kp s0 s30 ∧ (v28.toInt = -1) := h29
        have i31 := h29.1
        have k32 : Kp s0 s30 := Kx.tr Kx.rf (h29.2.1)
        have q33 := h29.2.2
        show Iv s30 ∧ Kp s0 s30 ∧ (((0 ≤ a1.toInt ∧ a1.toInt ≤ vg_lres (s0.1 12 0) (s0.1 12 1)) ∧ v28 = vg_cc (s0.1 12 1).toNatClampNeg (s0.1 12 0).toNatClampNeg a1.toNatClampNeg) ∨ (¬ (0 ≤ a1.toInt ∧ a1.toInt ≤ vg_lres (s0.1 12 0) (s0.1 12 1)) ∧ v28.toInt = -1))
        exact ⟨i31, k32, (by first | exact Or.inl ⟨by omega, by rw [q33.1]; exact y1⟩ | exact Or.inr ⟨by omega, by omega⟩)⟩
